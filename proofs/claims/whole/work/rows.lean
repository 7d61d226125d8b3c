section
-- ===== PART A: goes FIRST, ahead of the names: the tables' words, and 'selects' of the private methods out of them =====
/-- a private method of a class that the tables say can be made, by its rows of tables_1 -/
def lw_okq (q : MethodName × Nat) : Prop := (q.1.cls ≠ "java/lang/invoke/MethodHandle" ∧ q.1.cls ≠ "java/lang/invoke/VarHandle") ∧ Cond.instantiable q.1.cls q.2 ∈ tables_1 ∧ Cond.privateMethod q.1 ∈ tables_1 ∧ Cond.instanceMethod q.1 ∈ tables_1
theorem lw_p0 : lw_okq (⟨"PutBack$Reader", "readClause", "()Z"⟩, 4) := ⟨⟨by decide +kernel, by decide +kernel⟩, List.mem_of_getElem? (i := 260) (by decide +kernel), List.mem_of_getElem? (i := 350) (by decide +kernel), List.mem_of_getElem? (i := 351) (by decide +kernel)⟩
theorem lw_p1 : lw_okq (⟨"PutBack$Reader", "peek", "()I"⟩, 4) := ⟨⟨by decide +kernel, by decide +kernel⟩, List.mem_of_getElem? (i := 260) (by decide +kernel), List.mem_of_getElem? (i := 354) (by decide +kernel), List.mem_of_getElem? (i := 355) (by decide +kernel)⟩
theorem lw_p2 : lw_okq (⟨"PutBack$Reader", "readName", "(Ljava/lang/String;)Z"⟩, 4) := ⟨⟨by decide +kernel, by decide +kernel⟩, List.mem_of_getElem? (i := 260) (by decide +kernel), List.mem_of_getElem? (i := 365) (by decide +kernel), List.mem_of_getElem? (i := 366) (by decide +kernel)⟩
theorem lw_p3 : lw_okq (⟨"PutBack$Reader", "readSign", "(I)Z"⟩, 4) := ⟨⟨by decide +kernel, by decide +kernel⟩, List.mem_of_getElem? (i := 260) (by decide +kernel), List.mem_of_getElem? (i := 417) (by decide +kernel), List.mem_of_getElem? (i := 418) (by decide +kernel)⟩
theorem lw_p4 : lw_okq (⟨"PutBack$Reader", "readNumber", "()I"⟩, 4) := ⟨⟨by decide +kernel, by decide +kernel⟩, List.mem_of_getElem? (i := 260) (by decide +kernel), List.mem_of_getElem? (i := 421) (by decide +kernel), List.mem_of_getElem? (i := 422) (by decide +kernel)⟩
theorem lw_p5 : lw_okq (⟨"PutBack$Reader", "readEither", "(I)Z"⟩, 4) := ⟨⟨by decide +kernel, by decide +kernel⟩, List.mem_of_getElem? (i := 260) (by decide +kernel), List.mem_of_getElem? (i := 425) (by decide +kernel), List.mem_of_getElem? (i := 426) (by decide +kernel)⟩
theorem lw_p6 : lw_okq (⟨"PutBack$Reader", "readFactor", "(I)Z"⟩, 4) := ⟨⟨by decide +kernel, by decide +kernel⟩, List.mem_of_getElem? (i := 260) (by decide +kernel), List.mem_of_getElem? (i := 429) (by decide +kernel), List.mem_of_getElem? (i := 430) (by decide +kernel)⟩
theorem lw_p7 : lw_okq (⟨"PutBack$Reader", "readTest", "()Z"⟩, 4) := ⟨⟨by decide +kernel, by decide +kernel⟩, List.mem_of_getElem? (i := 260) (by decide +kernel), List.mem_of_getElem? (i := 433) (by decide +kernel), List.mem_of_getElem? (i := 434) (by decide +kernel)⟩
theorem lw_p8 : lw_okq (⟨"PutBack$Reader", "readOneOf", "(Ljava/lang/String;)I"⟩, 4) := ⟨⟨by decide +kernel, by decide +kernel⟩, List.mem_of_getElem? (i := 260) (by decide +kernel), List.mem_of_getElem? (i := 438) (by decide +kernel), List.mem_of_getElem? (i := 439) (by decide +kernel)⟩
theorem lw_p9 : lw_okq (⟨"PutBack$Maker", "kindOf", "(I)I"⟩, 8) := ⟨⟨by decide +kernel, by decide +kernel⟩, List.mem_of_getElem? (i := 28) (by decide +kernel), List.mem_of_getElem? (i := 595) (by decide +kernel), List.mem_of_getElem? (i := 596) (by decide +kernel)⟩
theorem lw_p10 : lw_okq (⟨"PutBack$Maker", "spread", "(I)V"⟩, 8) := ⟨⟨by decide +kernel, by decide +kernel⟩, List.mem_of_getElem? (i := 28) (by decide +kernel), List.mem_of_getElem? (i := 604) (by decide +kernel), List.mem_of_getElem? (i := 605) (by decide +kernel)⟩
theorem lw_p11 : lw_okq (⟨"PutBack$Maker", "spreadCost", "(II)I"⟩, 8) := ⟨⟨by decide +kernel, by decide +kernel⟩, List.mem_of_getElem? (i := 28) (by decide +kernel), List.mem_of_getElem? (i := 609) (by decide +kernel), List.mem_of_getElem? (i := 610) (by decide +kernel)⟩
theorem lw_p12 : lw_okq (⟨"PutBack$Maker", "spreadFar", "(II)I"⟩, 8) := ⟨⟨by decide +kernel, by decide +kernel⟩, List.mem_of_getElem? (i := 28) (by decide +kernel), List.mem_of_getElem? (i := 614) (by decide +kernel), List.mem_of_getElem? (i := 615) (by decide +kernel)⟩
theorem lw_p13 : lw_okq (⟨"PutBack$Maker", "isBeginning", "(I)Z"⟩, 8) := ⟨⟨by decide +kernel, by decide +kernel⟩, List.mem_of_getElem? (i := 28) (by decide +kernel), List.mem_of_getElem? (i := 618) (by decide +kernel), List.mem_of_getElem? (i := 619) (by decide +kernel)⟩
theorem lw_p14 : lw_okq (⟨"PutBack$Maker", "leastSum", "(II)I"⟩, 8) := ⟨⟨by decide +kernel, by decide +kernel⟩, List.mem_of_getElem? (i := 28) (by decide +kernel), List.mem_of_getElem? (i := 623) (by decide +kernel), List.mem_of_getElem? (i := 624) (by decide +kernel)⟩
theorem lw_p15 : lw_okq (⟨"PutBack$Maker", "factsOf", "(II)[I"⟩, 8) := ⟨⟨by decide +kernel, by decide +kernel⟩, List.mem_of_getElem? (i := 28) (by decide +kernel), List.mem_of_getElem? (i := 630) (by decide +kernel), List.mem_of_getElem? (i := 631) (by decide +kernel)⟩
def lw_privs_1 : List (MethodName × Nat) := [(⟨"PutBack$Reader", "readClause", "()Z"⟩, 4), (⟨"PutBack$Reader", "peek", "()I"⟩, 4), (⟨"PutBack$Reader", "readName", "(Ljava/lang/String;)Z"⟩, 4), (⟨"PutBack$Reader", "readSign", "(I)Z"⟩, 4), (⟨"PutBack$Reader", "readNumber", "()I"⟩, 4), (⟨"PutBack$Reader", "readEither", "(I)Z"⟩, 4), (⟨"PutBack$Reader", "readFactor", "(I)Z"⟩, 4), (⟨"PutBack$Reader", "readTest", "()Z"⟩, 4), (⟨"PutBack$Reader", "readOneOf", "(Ljava/lang/String;)I"⟩, 4), (⟨"PutBack$Maker", "kindOf", "(I)I"⟩, 8), (⟨"PutBack$Maker", "spread", "(I)V"⟩, 8), (⟨"PutBack$Maker", "spreadCost", "(II)I"⟩, 8), (⟨"PutBack$Maker", "spreadFar", "(II)I"⟩, 8), (⟨"PutBack$Maker", "isBeginning", "(I)Z"⟩, 8), (⟨"PutBack$Maker", "leastSum", "(II)I"⟩, 8), (⟨"PutBack$Maker", "factsOf", "(II)[I"⟩, 8)]
theorem lw_r1 : ∀ q ∈ lw_privs_1, lw_okq q := List.forall_mem_cons.mpr ⟨lw_p0, List.forall_mem_cons.mpr ⟨lw_p1, List.forall_mem_cons.mpr ⟨lw_p2, List.forall_mem_cons.mpr ⟨lw_p3, List.forall_mem_cons.mpr ⟨lw_p4, List.forall_mem_cons.mpr ⟨lw_p5, List.forall_mem_cons.mpr ⟨lw_p6, List.forall_mem_cons.mpr ⟨lw_p7, List.forall_mem_cons.mpr ⟨lw_p8, List.forall_mem_cons.mpr ⟨lw_p9, List.forall_mem_cons.mpr ⟨lw_p10, List.forall_mem_cons.mpr ⟨lw_p11, List.forall_mem_cons.mpr ⟨lw_p12, List.forall_mem_cons.mpr ⟨lw_p13, List.forall_mem_cons.mpr ⟨lw_p14, List.forall_mem_cons.mpr ⟨lw_p15, fun _ h => absurd h List.not_mem_nil⟩⟩⟩⟩⟩⟩⟩⟩⟩⟩⟩⟩⟩⟩⟩⟩
theorem lw_p16 : lw_okq (⟨"PutBack$Phone", "holds", "(II[I)Z"⟩, 7) := ⟨⟨by decide +kernel, by decide +kernel⟩, List.mem_of_getElem? (i := 135) (by decide +kernel), List.mem_of_getElem? (i := 641) (by decide +kernel), List.mem_of_getElem? (i := 642) (by decide +kernel)⟩
theorem lw_p17 : lw_okq (⟨"PutBack", "refusalOf", "(II)I"⟩, 8) := ⟨⟨by decide +kernel, by decide +kernel⟩, List.mem_of_getElem? (i := 20) (by decide +kernel), List.mem_of_getElem? (i := 679) (by decide +kernel), List.mem_of_getElem? (i := 680) (by decide +kernel)⟩
theorem lw_p18 : lw_okq (⟨"PutBack", "staysOne", "(II)Z"⟩, 8) := ⟨⟨by decide +kernel, by decide +kernel⟩, List.mem_of_getElem? (i := 20) (by decide +kernel), List.mem_of_getElem? (i := 701) (by decide +kernel), List.mem_of_getElem? (i := 702) (by decide +kernel)⟩
theorem lw_p19 : lw_okq (⟨"PutBack", "wayTo", "(II)I"⟩, 8) := ⟨⟨by decide +kernel, by decide +kernel⟩, List.mem_of_getElem? (i := 20) (by decide +kernel), List.mem_of_getElem? (i := 709) (by decide +kernel), List.mem_of_getElem? (i := 710) (by decide +kernel)⟩
theorem lw_p20 : lw_okq (⟨"PutBack", "shortWays", "(I)I"⟩, 8) := ⟨⟨by decide +kernel, by decide +kernel⟩, List.mem_of_getElem? (i := 20) (by decide +kernel), List.mem_of_getElem? (i := 717) (by decide +kernel), List.mem_of_getElem? (i := 718) (by decide +kernel)⟩
theorem lw_p21 : lw_okq (⟨"PutBack", "runChain", "(II)I"⟩, 8) := ⟨⟨by decide +kernel, by decide +kernel⟩, List.mem_of_getElem? (i := 20) (by decide +kernel), List.mem_of_getElem? (i := 785) (by decide +kernel), List.mem_of_getElem? (i := 786) (by decide +kernel)⟩
theorem lw_p22 : lw_okq (⟨"PutBack", "waysFrom", "(III)I"⟩, 8) := ⟨⟨by decide +kernel, by decide +kernel⟩, List.mem_of_getElem? (i := 20) (by decide +kernel), List.mem_of_getElem? (i := 796) (by decide +kernel), List.mem_of_getElem? (i := 797) (by decide +kernel)⟩
theorem lw_p23 : lw_okq (⟨"PutBack$Acts", "run", "(IIII)I"⟩, 5) := ⟨⟨by decide +kernel, by decide +kernel⟩, List.mem_of_getElem? (i := 282) (by decide +kernel), List.mem_of_getElem? (i := 849) (by decide +kernel), List.mem_of_getElem? (i := 850) (by decide +kernel)⟩
theorem lw_p24 : lw_okq (⟨"PutBack$Acts", "begin", "(I)V"⟩, 5) := ⟨⟨by decide +kernel, by decide +kernel⟩, List.mem_of_getElem? (i := 282) (by decide +kernel), List.mem_of_getElem? (i := 860) (by decide +kernel), List.mem_of_getElem? (i := 861) (by decide +kernel)⟩
theorem lw_p25 : lw_okq (⟨"PutBackModel", "clauseHere", "()V"⟩, 31) := ⟨⟨by decide +kernel, by decide +kernel⟩, List.mem_of_getElem? (i := 914) (by decide +kernel), List.mem_of_getElem? (i := 1025) (by decide +kernel), List.mem_of_getElem? (i := 1026) (by decide +kernel)⟩
theorem lw_p26 : lw_okq (⟨"PutBackModel", "here", "()I"⟩, 31) := ⟨⟨by decide +kernel, by decide +kernel⟩, List.mem_of_getElem? (i := 914) (by decide +kernel), List.mem_of_getElem? (i := 1029) (by decide +kernel), List.mem_of_getElem? (i := 1030) (by decide +kernel)⟩
theorem lw_p27 : lw_okq (⟨"PutBackModel", "tellsHere", "(ILjava/lang/String;)V"⟩, 31) := ⟨⟨by decide +kernel, by decide +kernel⟩, List.mem_of_getElem? (i := 914) (by decide +kernel), List.mem_of_getElem? (i := 1034) (by decide +kernel), List.mem_of_getElem? (i := 1035) (by decide +kernel)⟩
theorem lw_p28 : lw_okq (⟨"PutBackModel", "spells", "(Ljava/lang/String;)V"⟩, 31) := ⟨⟨by decide +kernel, by decide +kernel⟩, List.mem_of_getElem? (i := 914) (by decide +kernel), List.mem_of_getElem? (i := 1038) (by decide +kernel), List.mem_of_getElem? (i := 1039) (by decide +kernel)⟩
theorem lw_p29 : lw_okq (⟨"PutBackModel", "must", "(I)V"⟩, 31) := ⟨⟨by decide +kernel, by decide +kernel⟩, List.mem_of_getElem? (i := 914) (by decide +kernel), List.mem_of_getElem? (i := 1044) (by decide +kernel), List.mem_of_getElem? (i := 1045) (by decide +kernel)⟩
theorem lw_p30 : lw_okq (⟨"PutBackModel", "figures", "()I"⟩, 31) := ⟨⟨by decide +kernel, by decide +kernel⟩, List.mem_of_getElem? (i := 914) (by decide +kernel), List.mem_of_getElem? (i := 1048) (by decide +kernel), List.mem_of_getElem? (i := 1049) (by decide +kernel)⟩
theorem lw_p31 : lw_okq (⟨"PutBackModel", "much", "(ILjava/lang/String;)V"⟩, 31) := ⟨⟨by decide +kernel, by decide +kernel⟩, List.mem_of_getElem? (i := 914) (by decide +kernel), List.mem_of_getElem? (i := 1054) (by decide +kernel), List.mem_of_getElem? (i := 1055) (by decide +kernel)⟩
def lw_privs_2 : List (MethodName × Nat) := [(⟨"PutBack$Phone", "holds", "(II[I)Z"⟩, 7), (⟨"PutBack", "refusalOf", "(II)I"⟩, 8), (⟨"PutBack", "staysOne", "(II)Z"⟩, 8), (⟨"PutBack", "wayTo", "(II)I"⟩, 8), (⟨"PutBack", "shortWays", "(I)I"⟩, 8), (⟨"PutBack", "runChain", "(II)I"⟩, 8), (⟨"PutBack", "waysFrom", "(III)I"⟩, 8), (⟨"PutBack$Acts", "run", "(IIII)I"⟩, 5), (⟨"PutBack$Acts", "begin", "(I)V"⟩, 5), (⟨"PutBackModel", "clauseHere", "()V"⟩, 31), (⟨"PutBackModel", "here", "()I"⟩, 31), (⟨"PutBackModel", "tellsHere", "(ILjava/lang/String;)V"⟩, 31), (⟨"PutBackModel", "spells", "(Ljava/lang/String;)V"⟩, 31), (⟨"PutBackModel", "must", "(I)V"⟩, 31), (⟨"PutBackModel", "figures", "()I"⟩, 31), (⟨"PutBackModel", "much", "(ILjava/lang/String;)V"⟩, 31)]
theorem lw_r2 : ∀ q ∈ lw_privs_2, lw_okq q := List.forall_mem_cons.mpr ⟨lw_p16, List.forall_mem_cons.mpr ⟨lw_p17, List.forall_mem_cons.mpr ⟨lw_p18, List.forall_mem_cons.mpr ⟨lw_p19, List.forall_mem_cons.mpr ⟨lw_p20, List.forall_mem_cons.mpr ⟨lw_p21, List.forall_mem_cons.mpr ⟨lw_p22, List.forall_mem_cons.mpr ⟨lw_p23, List.forall_mem_cons.mpr ⟨lw_p24, List.forall_mem_cons.mpr ⟨lw_p25, List.forall_mem_cons.mpr ⟨lw_p26, List.forall_mem_cons.mpr ⟨lw_p27, List.forall_mem_cons.mpr ⟨lw_p28, List.forall_mem_cons.mpr ⟨lw_p29, List.forall_mem_cons.mpr ⟨lw_p30, List.forall_mem_cons.mpr ⟨lw_p31, fun _ h => absurd h List.not_mem_nil⟩⟩⟩⟩⟩⟩⟩⟩⟩⟩⟩⟩⟩⟩⟩⟩
theorem lw_p32 : lw_okq (⟨"PutBackModel", "some", "()V"⟩, 31) := ⟨⟨by decide +kernel, by decide +kernel⟩, List.mem_of_getElem? (i := 914) (by decide +kernel), List.mem_of_getElem? (i := 1058) (by decide +kernel), List.mem_of_getElem? (i := 1059) (by decide +kernel)⟩
theorem lw_p33 : lw_okq (⟨"PutBackModel", "every", "()V"⟩, 31) := ⟨⟨by decide +kernel, by decide +kernel⟩, List.mem_of_getElem? (i := 914) (by decide +kernel), List.mem_of_getElem? (i := 1062) (by decide +kernel), List.mem_of_getElem? (i := 1063) (by decide +kernel)⟩
theorem lw_p34 : lw_okq (⟨"PutBackModel", "factor", "()V"⟩, 31) := ⟨⟨by decide +kernel, by decide +kernel⟩, List.mem_of_getElem? (i := 914) (by decide +kernel), List.mem_of_getElem? (i := 1066) (by decide +kernel), List.mem_of_getElem? (i := 1067) (by decide +kernel)⟩
theorem lw_p35 : lw_okq (⟨"PutBackModel", "emits", "(I)V"⟩, 31) := ⟨⟨by decide +kernel, by decide +kernel⟩, List.mem_of_getElem? (i := 914) (by decide +kernel), List.mem_of_getElem? (i := 1070) (by decide +kernel), List.mem_of_getElem? (i := 1071) (by decide +kernel)⟩
theorem lw_p36 : lw_okq (⟨"PutBackModel", "among", "(Ljava/lang/String;)I"⟩, 31) := ⟨⟨by decide +kernel, by decide +kernel⟩, List.mem_of_getElem? (i := 914) (by decide +kernel), List.mem_of_getElem? (i := 1075) (by decide +kernel), List.mem_of_getElem? (i := 1076) (by decide +kernel)⟩
theorem lw_p37 : lw_okq (⟨"PutBackModel", "indexOf", "(I)I"⟩, 31) := ⟨⟨by decide +kernel, by decide +kernel⟩, List.mem_of_getElem? (i := 914) (by decide +kernel), List.mem_of_getElem? (i := 1089) (by decide +kernel), List.mem_of_getElem? (i := 1090) (by decide +kernel)⟩
theorem lw_p38 : lw_okq (⟨"PutBackModel", "isListed", "(I)Z"⟩, 31) := ⟨⟨by decide +kernel, by decide +kernel⟩, List.mem_of_getElem? (i := 914) (by decide +kernel), List.mem_of_getElem? (i := 1097) (by decide +kernel), List.mem_of_getElem? (i := 1098) (by decide +kernel)⟩
theorem lw_p39 : lw_okq (⟨"PutBackModel", "isMender", "(I)Z"⟩, 31) := ⟨⟨by decide +kernel, by decide +kernel⟩, List.mem_of_getElem? (i := 914) (by decide +kernel), List.mem_of_getElem? (i := 1117) (by decide +kernel), List.mem_of_getElem? (i := 1118) (by decide +kernel)⟩
theorem lw_p40 : lw_okq (⟨"PutBackModel", "types", "(II)I"⟩, 31) := ⟨⟨by decide +kernel, by decide +kernel⟩, List.mem_of_getElem? (i := 914) (by decide +kernel), List.mem_of_getElem? (i := 1129) (by decide +kernel), List.mem_of_getElem? (i := 1130) (by decide +kernel)⟩
theorem lw_p41 : lw_okq (⟨"PutBackModel", "makesOf", "(II)I"⟩, 31) := ⟨⟨by decide +kernel, by decide +kernel⟩, List.mem_of_getElem? (i := 914) (by decide +kernel), List.mem_of_getElem? (i := 1133) (by decide +kernel), List.mem_of_getElem? (i := 1134) (by decide +kernel)⟩
theorem lw_p42 : lw_okq (⟨"PutBackModel", "looksFor", "(II)V"⟩, 31) := ⟨⟨by decide +kernel, by decide +kernel⟩, List.mem_of_getElem? (i := 914) (by decide +kernel), List.mem_of_getElem? (i := 1140) (by decide +kernel), List.mem_of_getElem? (i := 1141) (by decide +kernel)⟩
theorem lw_p43 : lw_okq (⟨"PutBackModel", "looks", "(III)I"⟩, 31) := ⟨⟨by decide +kernel, by decide +kernel⟩, List.mem_of_getElem? (i := 914) (by decide +kernel), List.mem_of_getElem? (i := 1144) (by decide +kernel), List.mem_of_getElem? (i := 1145) (by decide +kernel)⟩
theorem lw_p44 : lw_okq (⟨"PutBackModel", "tellsOf", "(II)I"⟩, 31) := ⟨⟨by decide +kernel, by decide +kernel⟩, List.mem_of_getElem? (i := 914) (by decide +kernel), List.mem_of_getElem? (i := 1148) (by decide +kernel), List.mem_of_getElem? (i := 1149) (by decide +kernel)⟩
theorem lw_p45 : lw_okq (⟨"PutBackModel", "madeOf", "(II)I"⟩, 31) := ⟨⟨by decide +kernel, by decide +kernel⟩, List.mem_of_getElem? (i := 914) (by decide +kernel), List.mem_of_getElem? (i := 1152) (by decide +kernel), List.mem_of_getElem? (i := 1153) (by decide +kernel)⟩
theorem lw_p46 : lw_okq (⟨"PutBackModel", "isLeft", "(I)Z"⟩, 31) := ⟨⟨by decide +kernel, by decide +kernel⟩, List.mem_of_getElem? (i := 914) (by decide +kernel), List.mem_of_getElem? (i := 1156) (by decide +kernel), List.mem_of_getElem? (i := 1157) (by decide +kernel)⟩
theorem lw_p47 : lw_okq (⟨"PutBackModel", "costOf", "(III)I"⟩, 31) := ⟨⟨by decide +kernel, by decide +kernel⟩, List.mem_of_getElem? (i := 914) (by decide +kernel), List.mem_of_getElem? (i := 1161) (by decide +kernel), List.mem_of_getElem? (i := 1162) (by decide +kernel)⟩
def lw_privs_3 : List (MethodName × Nat) := [(⟨"PutBackModel", "some", "()V"⟩, 31), (⟨"PutBackModel", "every", "()V"⟩, 31), (⟨"PutBackModel", "factor", "()V"⟩, 31), (⟨"PutBackModel", "emits", "(I)V"⟩, 31), (⟨"PutBackModel", "among", "(Ljava/lang/String;)I"⟩, 31), (⟨"PutBackModel", "indexOf", "(I)I"⟩, 31), (⟨"PutBackModel", "isListed", "(I)Z"⟩, 31), (⟨"PutBackModel", "isMender", "(I)Z"⟩, 31), (⟨"PutBackModel", "types", "(II)I"⟩, 31), (⟨"PutBackModel", "makesOf", "(II)I"⟩, 31), (⟨"PutBackModel", "looksFor", "(II)V"⟩, 31), (⟨"PutBackModel", "looks", "(III)I"⟩, 31), (⟨"PutBackModel", "tellsOf", "(II)I"⟩, 31), (⟨"PutBackModel", "madeOf", "(II)I"⟩, 31), (⟨"PutBackModel", "isLeft", "(I)Z"⟩, 31), (⟨"PutBackModel", "costOf", "(III)I"⟩, 31)]
theorem lw_r3 : ∀ q ∈ lw_privs_3, lw_okq q := List.forall_mem_cons.mpr ⟨lw_p32, List.forall_mem_cons.mpr ⟨lw_p33, List.forall_mem_cons.mpr ⟨lw_p34, List.forall_mem_cons.mpr ⟨lw_p35, List.forall_mem_cons.mpr ⟨lw_p36, List.forall_mem_cons.mpr ⟨lw_p37, List.forall_mem_cons.mpr ⟨lw_p38, List.forall_mem_cons.mpr ⟨lw_p39, List.forall_mem_cons.mpr ⟨lw_p40, List.forall_mem_cons.mpr ⟨lw_p41, List.forall_mem_cons.mpr ⟨lw_p42, List.forall_mem_cons.mpr ⟨lw_p43, List.forall_mem_cons.mpr ⟨lw_p44, List.forall_mem_cons.mpr ⟨lw_p45, List.forall_mem_cons.mpr ⟨lw_p46, List.forall_mem_cons.mpr ⟨lw_p47, fun _ h => absurd h List.not_mem_nil⟩⟩⟩⟩⟩⟩⟩⟩⟩⟩⟩⟩⟩⟩⟩⟩
theorem lw_p48 : lw_okq (⟨"PutBackModel", "farOf", "(III)I"⟩, 31) := ⟨⟨by decide +kernel, by decide +kernel⟩, List.mem_of_getElem? (i := 914) (by decide +kernel), List.mem_of_getElem? (i := 1165) (by decide +kernel), List.mem_of_getElem? (i := 1166) (by decide +kernel)⟩
theorem lw_p49 : lw_okq (⟨"PutBackModel", "changes", "(IIZ)I"⟩, 31) := ⟨⟨by decide +kernel, by decide +kernel⟩, List.mem_of_getElem? (i := 914) (by decide +kernel), List.mem_of_getElem? (i := 1172) (by decide +kernel), List.mem_of_getElem? (i := 1173) (by decide +kernel)⟩
theorem lw_p50 : lw_okq (⟨"PutBackModel", "staysOf", "(I)I"⟩, 31) := ⟨⟨by decide +kernel, by decide +kernel⟩, List.mem_of_getElem? (i := 914) (by decide +kernel), List.mem_of_getElem? (i := 1209) (by decide +kernel), List.mem_of_getElem? (i := 1210) (by decide +kernel)⟩
theorem lw_p51 : lw_okq (⟨"PutBackModel", "looksForShort", "(I)V"⟩, 31) := ⟨⟨by decide +kernel, by decide +kernel⟩, List.mem_of_getElem? (i := 914) (by decide +kernel), List.mem_of_getElem? (i := 1217) (by decide +kernel), List.mem_of_getElem? (i := 1218) (by decide +kernel)⟩
theorem lw_p52 : lw_okq (⟨"PutBackModel", "looksForTouches", "(II)V"⟩, 31) := ⟨⟨by decide +kernel, by decide +kernel⟩, List.mem_of_getElem? (i := 914) (by decide +kernel), List.mem_of_getElem? (i := 1221) (by decide +kernel), List.mem_of_getElem? (i := 1222) (by decide +kernel)⟩
theorem lw_p53 : lw_okq (⟨"PutBackModel", "keeps", "()V"⟩, 31) := ⟨⟨by decide +kernel, by decide +kernel⟩, List.mem_of_getElem? (i := 914) (by decide +kernel), List.mem_of_getElem? (i := 1237) (by decide +kernel), List.mem_of_getElem? (i := 1238) (by decide +kernel)⟩
theorem lw_p54 : lw_okq (⟨"PutBackModel", "goesBack", "()V"⟩, 31) := ⟨⟨by decide +kernel, by decide +kernel⟩, List.mem_of_getElem? (i := 914) (by decide +kernel), List.mem_of_getElem? (i := 1241) (by decide +kernel), List.mem_of_getElem? (i := 1242) (by decide +kernel)⟩
theorem lw_p55 : lw_okq (⟨"PutBackModel", "begins", "(II)Z"⟩, 31) := ⟨⟨by decide +kernel, by decide +kernel⟩, List.mem_of_getElem? (i := 914) (by decide +kernel), List.mem_of_getElem? (i := 1249) (by decide +kernel), List.mem_of_getElem? (i := 1250) (by decide +kernel)⟩
theorem lw_p56 : lw_okq (⟨"PutBackModel", "aheadOf", "(II)I"⟩, 31) := ⟨⟨by decide +kernel, by decide +kernel⟩, List.mem_of_getElem? (i := 914) (by decide +kernel), List.mem_of_getElem? (i := 1253) (by decide +kernel), List.mem_of_getElem? (i := 1254) (by decide +kernel)⟩
theorem lw_p57 : lw_okq (⟨"PutBackModel", "slipsFrom", "(III)V"⟩, 31) := ⟨⟨by decide +kernel, by decide +kernel⟩, List.mem_of_getElem? (i := 914) (by decide +kernel), List.mem_of_getElem? (i := 1270) (by decide +kernel), List.mem_of_getElem? (i := 1271) (by decide +kernel)⟩
theorem lw_p58 : lw_okq (⟨"PutBackModel", "goesRound", "(I)Z"⟩, 31) := ⟨⟨by decide +kernel, by decide +kernel⟩, List.mem_of_getElem? (i := 914) (by decide +kernel), List.mem_of_getElem? (i := 1288) (by decide +kernel), List.mem_of_getElem? (i := 1289) (by decide +kernel)⟩
theorem lw_p59 : lw_okq (⟨"PutBackModel", "unlike", "()I"⟩, 31) := ⟨⟨by decide +kernel, by decide +kernel⟩, List.mem_of_getElem? (i := 914) (by decide +kernel), List.mem_of_getElem? (i := 1292) (by decide +kernel), List.mem_of_getElem? (i := 1293) (by decide +kernel)⟩
theorem lw_p60 : lw_okq (⟨"PutBackModel", "waysOf", "(III)I"⟩, 31) := ⟨⟨by decide +kernel, by decide +kernel⟩, List.mem_of_getElem? (i := 914) (by decide +kernel), List.mem_of_getElem? (i := 1300) (by decide +kernel), List.mem_of_getElem? (i := 1301) (by decide +kernel)⟩
theorem lw_p61 : lw_okq (⟨"PutBackModel", "mendsActs", "(I)I"⟩, 31) := ⟨⟨by decide +kernel, by decide +kernel⟩, List.mem_of_getElem? (i := 914) (by decide +kernel), List.mem_of_getElem? (i := 1336) (by decide +kernel), List.mem_of_getElem? (i := 1337) (by decide +kernel)⟩
theorem lw_p62 : lw_okq (⟨"PutBackModel", "ranBody", "(I)V"⟩, 31) := ⟨⟨by decide +kernel, by decide +kernel⟩, List.mem_of_getElem? (i := 914) (by decide +kernel), List.mem_of_getElem? (i := 1343) (by decide +kernel), List.mem_of_getElem? (i := 1344) (by decide +kernel)⟩
theorem lw_p63 : lw_okq (⟨"PutBackModel", "plainMends", "(I)I"⟩, 31) := ⟨⟨by decide +kernel, by decide +kernel⟩, List.mem_of_getElem? (i := 914) (by decide +kernel), List.mem_of_getElem? (i := 1347) (by decide +kernel), List.mem_of_getElem? (i := 1348) (by decide +kernel)⟩
def lw_privs_4 : List (MethodName × Nat) := [(⟨"PutBackModel", "farOf", "(III)I"⟩, 31), (⟨"PutBackModel", "changes", "(IIZ)I"⟩, 31), (⟨"PutBackModel", "staysOf", "(I)I"⟩, 31), (⟨"PutBackModel", "looksForShort", "(I)V"⟩, 31), (⟨"PutBackModel", "looksForTouches", "(II)V"⟩, 31), (⟨"PutBackModel", "keeps", "()V"⟩, 31), (⟨"PutBackModel", "goesBack", "()V"⟩, 31), (⟨"PutBackModel", "begins", "(II)Z"⟩, 31), (⟨"PutBackModel", "aheadOf", "(II)I"⟩, 31), (⟨"PutBackModel", "slipsFrom", "(III)V"⟩, 31), (⟨"PutBackModel", "goesRound", "(I)Z"⟩, 31), (⟨"PutBackModel", "unlike", "()I"⟩, 31), (⟨"PutBackModel", "waysOf", "(III)I"⟩, 31), (⟨"PutBackModel", "mendsActs", "(I)I"⟩, 31), (⟨"PutBackModel", "ranBody", "(I)V"⟩, 31), (⟨"PutBackModel", "plainMends", "(I)I"⟩, 31)]
theorem lw_r4 : ∀ q ∈ lw_privs_4, lw_okq q := List.forall_mem_cons.mpr ⟨lw_p48, List.forall_mem_cons.mpr ⟨lw_p49, List.forall_mem_cons.mpr ⟨lw_p50, List.forall_mem_cons.mpr ⟨lw_p51, List.forall_mem_cons.mpr ⟨lw_p52, List.forall_mem_cons.mpr ⟨lw_p53, List.forall_mem_cons.mpr ⟨lw_p54, List.forall_mem_cons.mpr ⟨lw_p55, List.forall_mem_cons.mpr ⟨lw_p56, List.forall_mem_cons.mpr ⟨lw_p57, List.forall_mem_cons.mpr ⟨lw_p58, List.forall_mem_cons.mpr ⟨lw_p59, List.forall_mem_cons.mpr ⟨lw_p60, List.forall_mem_cons.mpr ⟨lw_p61, List.forall_mem_cons.mpr ⟨lw_p62, List.forall_mem_cons.mpr ⟨lw_p63, fun _ h => absurd h List.not_mem_nil⟩⟩⟩⟩⟩⟩⟩⟩⟩⟩⟩⟩⟩⟩⟩⟩
theorem lw_p64 : lw_okq (⟨"PutBackModel", "leavesActs", "(I)I"⟩, 31) := ⟨⟨by decide +kernel, by decide +kernel⟩, List.mem_of_getElem? (i := 914) (by decide +kernel), List.mem_of_getElem? (i := 1351) (by decide +kernel), List.mem_of_getElem? (i := 1352) (by decide +kernel)⟩
theorem lw_p65 : lw_okq (⟨"PutBackModel", "plainLeaves", "(I)I"⟩, 31) := ⟨⟨by decide +kernel, by decide +kernel⟩, List.mem_of_getElem? (i := 914) (by decide +kernel), List.mem_of_getElem? (i := 1355) (by decide +kernel), List.mem_of_getElem? (i := 1356) (by decide +kernel)⟩
theorem lw_p66 : lw_okq (⟨"PutBackModel", "tellsActs", "(I)I"⟩, 31) := ⟨⟨by decide +kernel, by decide +kernel⟩, List.mem_of_getElem? (i := 914) (by decide +kernel), List.mem_of_getElem? (i := 1359) (by decide +kernel), List.mem_of_getElem? (i := 1360) (by decide +kernel)⟩
theorem lw_p67 : lw_okq (⟨"PutBackModel", "plainTells", "(I)I"⟩, 31) := ⟨⟨by decide +kernel, by decide +kernel⟩, List.mem_of_getElem? (i := 914) (by decide +kernel), List.mem_of_getElem? (i := 1363) (by decide +kernel), List.mem_of_getElem? (i := 1364) (by decide +kernel)⟩
def lw_privs_5 : List (MethodName × Nat) := [(⟨"PutBackModel", "leavesActs", "(I)I"⟩, 31), (⟨"PutBackModel", "plainLeaves", "(I)I"⟩, 31), (⟨"PutBackModel", "tellsActs", "(I)I"⟩, 31), (⟨"PutBackModel", "plainTells", "(I)I"⟩, 31)]
theorem lw_r5 : ∀ q ∈ lw_privs_5, lw_okq q := List.forall_mem_cons.mpr ⟨lw_p64, List.forall_mem_cons.mpr ⟨lw_p65, List.forall_mem_cons.mpr ⟨lw_p66, List.forall_mem_cons.mpr ⟨lw_p67, fun _ h => absurd h List.not_mem_nil⟩⟩⟩⟩
def lw_privs : List (MethodName × Nat) := lw_privs_1 ++ (lw_privs_2 ++ (lw_privs_3 ++ (lw_privs_4 ++ (lw_privs_5))))
def lw_tbl : List Cond := k2_sels lw_privs ++ tables_1
theorem lw_privs_ok : ∀ q ∈ lw_privs, lw_okq q := by
  show ∀ q ∈ lw_privs_1 ++ (lw_privs_2 ++ (lw_privs_3 ++ (lw_privs_4 ++ (lw_privs_5)))), lw_okq q
  exact List.forall_mem_append.mpr ⟨lw_r1, List.forall_mem_append.mpr ⟨lw_r2, List.forall_mem_append.mpr ⟨lw_r3, List.forall_mem_append.mpr ⟨lw_r4, lw_r5⟩⟩⟩⟩
def RX0 : String := "PutBack$Acts"
def TX0 : u_T := fun k => match k with
  | 0 => ("PutBack$Acts", "bodies", "[I", true)
  | 1 => ("PutBack$Acts", "ran", "I", false)
  | 2 => ("PutBack$Acts", "number", "I", false)
  | 3 => ("PutBack$Acts", "kind", "I", false)
  | _ => ("PutBack$Acts", "v", "I", false)
def tyX0 : Nat → FieldType := fun k => match k with
  | 0 => .array .int
  | 1 => .int
  | 2 => .int
  | 3 => .int
  | _ => .int
abbrev wsX00 : List Cond := u_ws RX0 TX0 5
theorem nmX0 : ∀ a, a < 5 → ∀ b, b < 5 → a ≠ b → (TX0 a).2.1 ≠ (TX0 b).2.1 := by decide +kernel
theorem tyX0_ok : ∀ k, k < 5 → parseFieldDescriptor (TX0 k).2.2.1 = some (tyX0 k) := by decide +kernel
def RX1 : String := "PutBack$Book"
def TX1 : u_T := fun k => match k with
  | 0 => ("PutBack$Book", "menders", "[I", true)
  | 1 => ("PutBack$Book", "typed", "[I", true)
  | 2 => ("PutBack$Book", "made", "[I", true)
  | _ => ("PutBack$Book", "size", "I", false)
def tyX1 : Nat → FieldType := fun k => match k with
  | 0 => .array .int
  | 1 => .array .int
  | 2 => .array .int
  | _ => .int
abbrev wsX10 : List Cond := u_ws RX1 TX1 4
theorem nmX1 : ∀ a, a < 4 → ∀ b, b < 4 → a ≠ b → (TX1 a).2.1 ≠ (TX1 b).2.1 := by decide +kernel
theorem tyX1_ok : ∀ k, k < 4 → parseFieldDescriptor (TX1 k).2.2.1 = some (tyX1 k) := by decide +kernel
def RX2 : String := "PutBack$Crew"
def TX2 : u_T := fun k => match k with
  | 0 => ("PutBack$Crew", "kinds", "[I", true)
  | 1 => ("PutBack$Crew", "vs", "[I", true)
  | 2 => ("PutBack$Crew", "rows", "[I", true)
  | _ => ("PutBack$Crew", "size", "I", false)
def tyX2 : Nat → FieldType := fun k => match k with
  | 0 => .array .int
  | 1 => .array .int
  | 2 => .array .int
  | _ => .int
abbrev wsX20 : List Cond := u_ws RX2 TX2 4
theorem nmX2 : ∀ a, a < 4 → ∀ b, b < 4 → a ≠ b → (TX2 a).2.1 ≠ (TX2 b).2.1 := by decide +kernel
theorem tyX2_ok : ∀ k, k < 4 → parseFieldDescriptor (TX2 k).2.2.1 = some (tyX2 k) := by decide +kernel
def RX3 : String := "PutBack$Maker"
def TX3 : u_T := fun k => match k with
  | 0 => ("PutBack$Maker", "state", "LPutBack$State;", true)
  | 1 => ("PutBack$Maker", "weights", "[I", true)
  | 2 => ("PutBack$Maker", "typed", "I", false)
  | 3 => ("PutBack$Maker", "last", "I", false)
  | 4 => ("PutBack$Maker", "letters", "[I", true)
  | 5 => ("PutBack$Maker", "size", "I", false)
  | 6 => ("PutBack$Maker", "sums", "[I", true)
  | _ => ("PutBack$Maker", "facts", "[I", true)
def tyX3 : Nat → FieldType := fun k => match k with
  | 0 => .object "PutBack$State"
  | 1 => .array .int
  | 2 => .int
  | 3 => .int
  | 4 => .array .int
  | 5 => .int
  | 6 => .array .int
  | _ => .array .int
abbrev wsX30 : List Cond := u_ws RX3 TX3 8
theorem nmX3 : ∀ a, a < 8 → ∀ b, b < 8 → a ≠ b → (TX3 a).2.1 ≠ (TX3 b).2.1 := by decide +kernel
theorem tyX3_ok : ∀ k, k < 8 → parseFieldDescriptor (TX3 k).2.2.1 = some (tyX3 k) := by decide +kernel
def RX4 : String := "PutBack$Phone"
def TX4 : u_T := fun k => match k with
  | 0 => ("PutBack$Phone", "limit", "I", false)
  | 1 => ("PutBack$Phone", "step", "I", false)
  | 2 => ("PutBack$Phone", "amounts", "[I", true)
  | 3 => ("PutBack$Phone", "ends", "[I", true)
  | 4 => ("PutBack$Phone", "clauses", "I", false)
  | 5 => ("PutBack$Phone", "signs", "[I", true)
  | _ => ("PutBack$Phone", "size", "I", false)
def tyX4 : Nat → FieldType := fun k => match k with
  | 0 => .int
  | 1 => .int
  | 2 => .array .int
  | 3 => .array .int
  | 4 => .int
  | 5 => .array .int
  | _ => .int
abbrev wsX40 : List Cond := u_ws RX4 TX4 7
theorem nmX4 : ∀ a, a < 7 → ∀ b, b < 7 → a ≠ b → (TX4 a).2.1 ≠ (TX4 b).2.1 := by decide +kernel
theorem tyX4_ok : ∀ k, k < 7 → parseFieldDescriptor (TX4 k).2.2.1 = some (tyX4 k) := by decide +kernel
def RX5 : String := "PutBack$Reader"
def TX5 : u_T := fun k => match k with
  | 0 => ("PutBack$Reader", "phone", "LPutBack$Phone;", true)
  | 1 => ("PutBack$Reader", "tape", "[I", false)
  | 2 => ("PutBack$Reader", "size", "I", false)
  | _ => ("PutBack$Reader", "place", "I", false)
def tyX5 : Nat → FieldType := fun k => match k with
  | 0 => .object "PutBack$Phone"
  | 1 => .array .int
  | 2 => .int
  | _ => .int
abbrev wsX50 : List Cond := u_ws RX5 TX5 4
theorem nmX5 : ∀ a, a < 4 → ∀ b, b < 4 → a ≠ b → (TX5 a).2.1 ≠ (TX5 b).2.1 := by decide +kernel
theorem tyX5_ok : ∀ k, k < 4 → parseFieldDescriptor (TX5 k).2.2.1 = some (tyX5 k) := by decide +kernel
def RX6 : String := "PutBack$State"
def TX6 : u_T := fun k => match k with
  | 0 => ("PutBack$State", "list", "LPutBack$Words;", true)
  | 1 => ("PutBack$State", "crew", "LPutBack$Crew;", true)
  | 2 => ("PutBack$State", "text", "LPutBack$Text;", true)
  | 3 => ("PutBack$State", "phone", "LPutBack$Phone;", true)
  | 4 => ("PutBack$State", "book", "LPutBack$Book;", true)
  | 5 => ("PutBack$State", "tape", "[I", true)
  | 6 => ("PutBack$State", "tapeSize", "I", false)
  | _ => ("PutBack$State", "phones", "I", false)
def tyX6 : Nat → FieldType := fun k => match k with
  | 0 => .object "PutBack$Words"
  | 1 => .object "PutBack$Crew"
  | 2 => .object "PutBack$Text"
  | 3 => .object "PutBack$Phone"
  | 4 => .object "PutBack$Book"
  | 5 => .array .int
  | 6 => .int
  | _ => .int
abbrev wsX60 : List Cond := u_ws RX6 TX6 8
theorem nmX6 : ∀ a, a < 8 → ∀ b, b < 8 → a ≠ b → (TX6 a).2.1 ≠ (TX6 b).2.1 := by decide +kernel
theorem tyX6_ok : ∀ k, k < 8 → parseFieldDescriptor (TX6 k).2.2.1 = some (tyX6 k) := by decide +kernel
def RX7 : String := "PutBack$Text"
def TX7 : u_T := fun k => match k with
  | 0 => ("PutBack$Text", "standing", "[I", true)
  | 1 => ("PutBack$Text", "fingered", "[I", true)
  | 2 => ("PutBack$Text", "left", "[I", true)
  | 3 => ("PutBack$Text", "size", "I", false)
  | 4 => ("PutBack$Text", "typed", "I", false)
  | _ => ("PutBack$Text", "leftSize", "I", false)
def tyX7 : Nat → FieldType := fun k => match k with
  | 0 => .array .int
  | 1 => .array .int
  | 2 => .array .int
  | 3 => .int
  | 4 => .int
  | _ => .int
abbrev wsX70 : List Cond := u_ws RX7 TX7 6
theorem nmX7 : ∀ a, a < 6 → ∀ b, b < 6 → a ≠ b → (TX7 a).2.1 ≠ (TX7 b).2.1 := by decide +kernel
theorem tyX7_ok : ∀ k, k < 6 → parseFieldDescriptor (TX7 k).2.2.1 = some (tyX7 k) := by decide +kernel
def RX8 : String := "PutBack$Words"
def TX8 : u_T := fun k => match k with
  | 0 => ("PutBack$Words", "words", "[I", true)
  | 1 => ("PutBack$Words", "weights", "[I", true)
  | 2 => ("PutBack$Words", "nexts", "[I", true)
  | 3 => ("PutBack$Words", "sizes", "[I", true)
  | 4 => ("PutBack$Words", "letters", "[I", true)
  | _ => ("PutBack$Words", "size", "I", false)
def tyX8 : Nat → FieldType := fun k => match k with
  | 0 => .array .int
  | 1 => .array .int
  | 2 => .array .int
  | 3 => .array .int
  | 4 => .array .int
  | _ => .int
abbrev wsX80 : List Cond := u_ws RX8 TX8 6
theorem nmX8 : ∀ a, a < 6 → ∀ b, b < 6 → a ≠ b → (TX8 a).2.1 ≠ (TX8 b).2.1 := by decide +kernel
theorem tyX8_ok : ∀ k, k < 6 → parseFieldDescriptor (TX8 k).2.2.1 = some (tyX8 k) := by decide +kernel
def RX9 : String := "PutBack"
def TX9 : u_T := fun k => match k with
  | 0 => ("PutBack", "now", "LPutBack$State;", true)
  | 1 => ("PutBack", "kept", "LPutBack$State;", true)
  | 2 => ("PutBack", "isKept", "Z", false)
  | 3 => ("PutBack", "reader", "LPutBack$Reader;", true)
  | 4 => ("PutBack", "maker", "LPutBack$Maker;", true)
  | 5 => ("PutBack", "acts", "LPutBack$Acts;", true)
  | 6 => ("PutBack", "ways", "[I", true)
  | _ => ("PutBack", "course", "[I", true)
def tyX9 : Nat → FieldType := fun k => match k with
  | 0 => .object "PutBack$State"
  | 1 => .object "PutBack$State"
  | 2 => .boolean
  | 3 => .object "PutBack$Reader"
  | 4 => .object "PutBack$Maker"
  | 5 => .object "PutBack$Acts"
  | 6 => .array .int
  | _ => .array .int
abbrev wsX90 : List Cond := u_ws RX9 TX9 8
theorem nmX9 : ∀ a, a < 8 → ∀ b, b < 8 → a ≠ b → (TX9 a).2.1 ≠ (TX9 b).2.1 := by decide +kernel
theorem tyX9_ok : ∀ k, k < 8 → parseFieldDescriptor (TX9 k).2.2.1 = some (tyX9 k) := by decide +kernel
def RX10 : String := "PutBackModel"
def TX10 : u_T := fun k => match k with
  | 0 => ("PutBackModel", "thrown", "I", false)
  | 1 => ("PutBackModel", "s", "[I", true)
  | 2 => ("PutBackModel", "image", "[I", true)
  | 3 => ("PutBackModel", "frame", "[I", true)
  | 4 => ("PutBackModel", "hasImage", "Z", false)
  | 5 => ("PutBackModel", "act", "I", false)
  | 6 => ("PutBackModel", "spot", "I", false)
  | 7 => ("PutBackModel", "end", "I", false)
  | 8 => ("PutBackModel", "isWrong", "Z", false)
  | 9 => ("PutBackModel", "open", "I", false)
  | 10 => ("PutBackModel", "by", "[I", true)
  | 11 => ("PutBackModel", "truths", "[Z", true)
  | 12 => ("PutBackModel", "letters", "[I", true)
  | 13 => ("PutBackModel", "others", "[I", true)
  | 14 => ("PutBackModel", "sums", "[I", true)
  | 15 => ("PutBackModel", "thenSums", "[I", true)
  | 16 => ("PutBackModel", "extras", "[I", true)
  | 17 => ("PutBackModel", "short0", "[I", true)
  | 18 => ("PutBackModel", "made", "[I", true)
  | 19 => ("PutBackModel", "touchesMany", "I", false)
  | 20 => ("PutBackModel", "touchesWord", "I", false)
  | 21 => ("PutBackModel", "touchesBack", "Z", false)
  | 22 => ("PutBackModel", "path", "[I", true)
  | 23 => ("PutBackModel", "ways", "I", false)
  | 24 => ("PutBackModel", "waysSo", "I", false)
  | 25 => ("PutBackModel", "chained", "[I", true)
  | 26 => ("PutBackModel", "bodies", "[I", true)
  | 27 => ("PutBackModel", "ran", "I", false)
  | 28 => ("PutBackModel", "kind", "I", false)
  | 29 => ("PutBackModel", "number", "I", false)
  | _ => ("PutBackModel", "tellsV", "I", false)
def tyX10 : Nat → FieldType := fun k => match k with
  | 0 => .int
  | 1 => .array .int
  | 2 => .array .int
  | 3 => .array .int
  | 4 => .boolean
  | 5 => .int
  | 6 => .int
  | 7 => .int
  | 8 => .boolean
  | 9 => .int
  | 10 => .array .int
  | 11 => .array .boolean
  | 12 => .array .int
  | 13 => .array .int
  | 14 => .array .int
  | 15 => .array .int
  | 16 => .array .int
  | 17 => .array .int
  | 18 => .array .int
  | 19 => .int
  | 20 => .int
  | 21 => .boolean
  | 22 => .array .int
  | 23 => .int
  | 24 => .int
  | 25 => .array .int
  | 26 => .array .int
  | 27 => .int
  | 28 => .int
  | 29 => .int
  | _ => .int
abbrev wsX100 : List Cond := u_ws RX10 TX10 31
theorem nmX10 : ∀ a, a < 31 → ∀ b, b < 31 → a ≠ b → (TX10 a).2.1 ≠ (TX10 b).2.1 := by decide +kernel
theorem tyX10_ok : ∀ k, k < 31 → parseFieldDescriptor (TX10 k).2.2.1 = some (tyX10 k) := by decide +kernel
def xq_nfl : List Nat := [5, 4, 4, 8, 7, 4, 8, 6, 6, 8, 31]
def xq_cl : List vw_C := [(RX0, TX0, 5), (RX1, TX1, 4), (RX2, TX2, 4), (RX3, TX3, 8), (RX4, TX4, 7), (RX5, TX5, 4), (RX6, TX6, 8), (RX7, TX7, 6), (RX8, TX8, 6), (RX9, TX9, 8), (RX10, TX10, 31)]
/-- objects by number, eight by eight -/
def xq_shl2 : List (List (Nat ⊕ (Nat × Nat))) := [[.inl 9, .inl 3, .inl 6, .inl 8, .inr (0, 8), .inr (0, 8), .inr (0, 8), .inr (0, 8)],
  [.inr (0, 40), .inl 2, .inr (0, 5), .inr (0, 5), .inr (0, 20), .inl 7, .inr (0, 20), .inr (0, 20)],
  [.inr (0, 6), .inl 4, .inr (0, 10), .inr (0, 10), .inr (0, 100), .inl 1, .inr (0, 8), .inr (0, 8)],
  [.inr (0, 8), .inr (0, 100), .inr (0, 8), .inr (0, 5), .inr (0, 6), .inr (0, 6), .inl 6, .inl 8],
  [.inr (0, 8), .inr (0, 8), .inr (0, 8), .inr (0, 8), .inr (0, 40), .inl 2, .inr (0, 5), .inr (0, 5)],
  [.inr (0, 20), .inl 7, .inr (0, 20), .inr (0, 20), .inr (0, 6), .inl 4, .inr (0, 10), .inr (0, 10)],
  [.inr (0, 100), .inl 1, .inr (0, 8), .inr (0, 8), .inr (0, 8), .inr (0, 100), .inl 5, .inl 4],
  [.inr (0, 10), .inr (0, 10), .inr (0, 100), .inr (0, 0), .inl 0, .inr (0, 20), .inr (0, 8), .inr (0, 10)],
  [.inl 10, .inr (0, 949), .inr (0, 949), .inr (0, 10), .inr (0, 6), .inr (1, 64), .inr (0, 6), .inr (0, 6)],
  [.inr (0, 6), .inr (0, 6), .inr (0, 8), .inr (0, 584), .inr (0, 584), .inr (0, 12), .inr (0, 8), .inr (0, 20)]]
/-- the kinds of the fields of a class: 0 int, 1 boolean, 2 a reference that stays, 3 one that moves -/
def xq_fkl : List (List Nat) := [[2, 0, 0, 0, 0], [2, 2, 2, 0], [2, 2, 2, 0], [2, 2, 0, 0, 2, 0, 2, 2], [0, 0, 2, 2, 0, 2, 0], [2, 3, 0, 0], [2, 2, 2, 2, 2, 2, 0, 0], [2, 2, 2, 0, 0, 0], [2, 2, 2, 2, 2, 0], [2, 2, 1, 2, 2, 2, 2, 2], [0, 2, 2, 2, 1, 0, 0, 0, 1, 0, 2, 2, 2, 2, 2, 2, 2, 2, 2, 0, 0, 1, 2, 0, 0, 2, 2, 0, 0, 0, 0]]
def xq_fk (ci k : Nat) : Nat := (xq_fkl.getD ci []).getD k 9
/-- which object a field holds -/
def xq_rfl : List (List (List Nat)) := [[[2, 30, 0, 54, 1, 60, 62, 63], [2, 26, 0, 0, 27, 0, 28, 29], [3, 9, 13, 17, 21, 25, 0, 0], [4, 5, 6, 7, 8, 0], [], [], [], []],
  [[], [10, 11, 12, 0], [], [], [], [14, 15, 16, 0, 0, 0], [], []],
  [[], [0, 0, 18, 19, 0, 20, 0], [], [], [], [22, 23, 24, 0], [], []],
  [[], [], [], [], [], [], [31, 37, 41, 45, 49, 53, 0, 0], [32, 33, 34, 35, 36, 0]],
  [[], [], [], [], [], [38, 39, 40, 0], [], []],
  [[], [42, 43, 44, 0, 0, 0], [], [], [], [0, 0, 46, 47, 0, 48, 0], [], []],
  [[], [50, 51, 52, 0], [], [], [], [], [55, 59, 0, 0], [0, 0, 56, 57, 0, 58, 0]],
  [[], [], [], [], [61, 0, 0, 0, 0], [], [], []],
  [[0, 65, 66, 67, 0, 0, 0, 0, 0, 0, 68, 69, 70, 71, 72, 73, 74, 75, 76, 0, 0, 0, 77, 0, 0, 78, 79, 0, 0, 0, 0], [], [], [], [], [], [], []],
  [[], [], [], [], [], [], [], []]]
def xq_rf (o k : Nat) : Nat := ((xq_rfl.getD (o / 8) []).getD (o % 8) []).getD k 0
/-- cells of one object -/
def xq_szl : List Nat := [8, 8, 8, 6, 8, 8, 8, 8, 40, 4, 5, 5, 20, 6, 20, 20, 6, 7, 10, 10, 100, 4, 8, 8, 8, 100, 8, 5, 6, 6, 8, 6, 8, 8, 8, 8, 40, 4, 5, 5, 20, 6, 20, 20, 6, 7, 10, 10, 100, 4, 8, 8, 8, 100, 4, 7, 10, 10, 100, 0, 5, 20, 8, 10, 31, 949, 949, 10, 6, 64, 6, 6, 6, 6, 8, 584, 584, 12, 8, 20]
def xq_strs : List (List Int) := [[108, 105, 109, 105, 116], [115, 116, 101, 112], [100, 101, 97, 114], [102, 114, 101, 101], [108, 105, 109, 105, 116, 32], [115, 116, 101, 112, 32], [100, 101, 97, 114, 32], [102, 114, 101, 101, 32], [116, 119, 100, 107, 105, 115], [60, 61, 62]]
end
section
/-! ABSTRACT RUNS: a method's bytecode over whole numbers and a heap of numbers; objects by their order of making -/
abbrev xq_V : Type := Int ⊕ (Int ⊕ Nat)
abbrev xI (i : Int) : xq_V := Sum.inl i
abbrev xJ (i : Int) : xq_V := Sum.inr (Sum.inl i)
abbrev xR (o : Nat) : xq_V := Sum.inr (Sum.inr o)
abbrev xq_H : Type := Nat → Int → Int
def xq_u (h : xq_H) (o : Nat) (k v : Int) : xq_H := fun o' k' => if o' = o then (if k' = k then v else h o' k') else h o' k'
def xq_z (h : xq_H) (o : Nat) : xq_H := fun o' k' => if o' = o then 0 else h o' k'
/-- what an int operation makes -/
def xq_wr (x : Int) : Int := (x + 2147483648) % 4294967296 - 2147483648
def xq_and (a b : Int) : Int := (Int32.ofInt a &&& Int32.ofInt b).toInt
def xq_or (a b : Int) : Int := (Int32.ofInt a ||| Int32.ofInt b).toInt
def xq_xor (a b : Int) : Int := (Int32.ofInt a ^^^ Int32.ofInt b).toInt
def xq_shl (a b : Int) : Int := (Int32.ofInt a <<< (Int32.ofInt b &&& 31)).toInt
def xq_shr (a b : Int) : Int := (Int32.ofInt a >>> (Int32.ofInt b &&& 31)).toInt
def xq_ushr (a b : Int) : Int := (((Int32.ofInt a).toUInt32 >>> ((Int32.ofInt b).toUInt32 &&& Int32.toUInt32 31)).toInt32).toInt
def xq_lc (a b : Int) : Int := if a < b then -1 else if a = b then 0 else 1
abbrev xq_L : Type := List (Option xq_V)
def xq_get : xq_L → Nat → Option xq_V
  | [], _ => none
  | a :: _, 0 => a
  | _ :: l, n + 1 => xq_get l n
/-- a list, cell by cell -/
def xq_nrm : xq_L → (xq_L → Prop) → Prop
  | [], K => K []
  | a :: l, K => xq_nrm l (fun l' => K (a :: l'))
theorem xq_nrm_s : ∀ (L : xq_L) (K : xq_L → Prop), xq_nrm L K → K L
  | [], _, h => h
  | a :: l, K, h => xq_nrm_s l (fun l' => K (a :: l')) h
def xq_pl : xq_L → Nat → Bool
  | _, 0 => false
  | L, i + 1 => match xq_get L i with
    | some (.inr (.inl _)) => true
    | _ => false
def xq_st (L : xq_L) (i : Nat) (v : xq_V) (K : xq_L → Prop) : Prop := match Nat.blt i L.length with
  | true => match xq_pl L i with
    | false => xq_nrm (L.set i (some v)) K
    | true => False
  | false => False
def xq_st2 (L : xq_L) (i : Nat) (v : xq_V) (K : xq_L → Prop) : Prop := match Nat.blt (i + 1) L.length with
  | true => match xq_pl L i with
    | false => xq_nrm ((L.set i (some v)).set (i + 1) none) K
    | true => False
  | false => False
def xq_cat : List xq_V → Nat
  | [] => 0
  | .inr (.inl _) :: S => xq_cat S + 2
  | _ :: S => xq_cat S + 1
/-- the last n of a stack, as arguments -/
def xq_pop : Nat → List xq_V → List xq_V → Option (List xq_V × List xq_V)
  | 0, acc, S => some (acc, S)
  | n + 1, acc, v :: S => xq_pop n (v :: acc) S
  | _ + 1, _, [] => none
abbrev xq_Row : Type := Instr × (Nat × Nat × Nat) × List Nat × List Int
def xq_sw (K : Nat → Prop) (d : Nat) (x : Int) : List Nat → List Int → Prop
  | t :: ts, v :: vs => (x = v → K t) ∧ (¬ x = v → xq_sw K d x ts vs)
  | _, _ => K d
/-- the world's fixed shape: objects by number (classes by place; arrays: 0 ints, 1 booleans; length) -/
def xq_cls (o : Nat) : Nat ⊕ (Nat × Nat) := ((xq_shl2.getD (o / 8) []).getD (o % 8) (Sum.inl 99))
def xq_con (o : Nat) : List Int := match o with
  | 1001 => [-1, 0, 0, 0, 1, 2, 3]
  | 1002 => [1, 2, 3, 11, 0, 0, 0, 21, 0, 0, 0, 31, 0, 0, 41, 51, 0, 0, 0, 61, 0]
  | _ => []
def xq_str (i : Nat) : List Int := xq_strs.getD i []
/-- an int array read -/
def xq_ild (nx : Nat) (h : xq_H) (o : Nat) (i : Int) (K : Int → Prop) : Prop := match Nat.ble 999 o with
  | false => (match Nat.blt o nx with
    | true => (match xq_cls o with
      | .inr (0, n) => (0 ≤ i ∧ i < (n : Int)) ∧ K (h o i)
      | _ => False)
    | false => False)
  | true => (match Nat.beq o 999 with
    | true => (0 ≤ i ∧ i < h 999 (-1)) ∧ K (h 999 i)
    | false => (match xq_con o with
      | [] => False
      | a :: l => (0 ≤ i ∧ i < ((a :: l).length : Int)) ∧ K ((a :: l).getD i.toNat 0)))
def xq_bld (nx : Nat) (h : xq_H) (o : Nat) (i : Int) (K : Int → Prop) : Prop := match Nat.ble 999 o with
  | false => (match Nat.blt o nx with
    | true => (match xq_cls o with
      | .inr (1, n) => (0 ≤ i ∧ i < (n : Int)) ∧ K (h o i)
      | _ => False)
    | false => False)
  | true => (match Nat.ble 1200 o && Nat.ble o 1209 with
    | true => (0 ≤ i ∧ i < ((xq_str (o - 1200)).length : Int)) ∧ K ((xq_str (o - 1200)).getD i.toNat 0)
    | false => False)
def xq_len (nx : Nat) (h : xq_H) (o : Nat) (K : Int → Prop) : Prop := match Nat.ble 999 o with
  | false => (match Nat.blt o nx with
    | true => (match xq_cls o with
      | .inr (_, n) => K (n : Int)
      | _ => False)
    | false => False)
  | true => (match Nat.beq o 999 with
    | true => K (h 999 (-1))
    | false => (match Nat.ble 1200 o && Nat.ble o 1209 with
      | true => K ((xq_str (o - 1200)).length : Int)
      | false => False))
def xq_ast (t nx : Nat) (h : xq_H) (o : Nat) (i v : Int) (K : xq_H → Prop) : Prop := match xq_cls o with
  | .inr (t', n) => (match Nat.beq t t' && Nat.blt o nx with
    | true => (0 ≤ i ∧ i < (n : Int)) ∧ K (xq_u h o i v)
    | false => False)
  | _ => False
/-- a number as it is written -/
def xq_lit (n : Nat) (K : Nat → Prop) : Prop := match n with
  | 0 => K 0
  | 1 => K 1
  | 2 => K 2
  | 3 => K 3
  | 4 => K 4
  | 5 => K 5
  | 6 => K 6
  | 7 => K 7
  | 8 => K 8
  | 9 => K 9
  | 10 => K 10
  | 11 => K 11
  | 12 => K 12
  | 13 => K 13
  | 14 => K 14
  | 15 => K 15
  | 16 => K 16
  | 17 => K 17
  | 18 => K 18
  | 19 => K 19
  | 20 => K 20
  | 21 => K 21
  | 22 => K 22
  | 23 => K 23
  | 24 => K 24
  | 25 => K 25
  | 26 => K 26
  | 27 => K 27
  | 28 => K 28
  | 29 => K 29
  | 30 => K 30
  | 31 => K 31
  | 32 => K 32
  | 33 => K 33
  | 34 => K 34
  | 35 => K 35
  | 36 => K 36
  | 37 => K 37
  | 38 => K 38
  | 39 => K 39
  | 40 => K 40
  | 41 => K 41
  | 42 => K 42
  | 43 => K 43
  | 44 => K 44
  | 45 => K 45
  | 46 => K 46
  | 47 => K 47
  | 48 => K 48
  | 49 => K 49
  | 50 => K 50
  | 51 => K 51
  | 52 => K 52
  | 53 => K 53
  | 54 => K 54
  | 55 => K 55
  | 56 => K 56
  | 57 => K 57
  | 58 => K 58
  | 59 => K 59
  | 60 => K 60
  | 61 => K 61
  | 62 => K 62
  | 63 => K 63
  | 64 => K 64
  | 65 => K 65
  | 66 => K 66
  | 67 => K 67
  | 68 => K 68
  | 69 => K 69
  | 70 => K 70
  | 71 => K 71
  | 72 => K 72
  | 73 => K 73
  | 74 => K 74
  | 75 => K 75
  | 76 => K 76
  | 77 => K 77
  | 78 => K 78
  | 79 => K 79
  | _ => False
theorem xq_lit_s {K : Nat → Prop} : ∀ n, xq_lit n K → K n ∧ n < 80 := by
  intro n h
  unfold xq_lit at h
  split at h
  all_goals first | exact ⟨h, by decide⟩ | exact h.elim
/-- the field k of an object of the class ci -/
def xq_gf (kind ci k : Nat) (kI : Int) (nx : Nat) (h : xq_H) (o : Nat) (K : xq_V → Prop) : Prop := match kind with
  | 4 => (match Nat.ble 1100 o && Nat.ble o 1109 with
    | true => K (xI 0)
    | false => False)
  | 5 => (match Nat.ble 1100 o && Nat.ble o 1109 with
    | true => K (xR (o + 100))
    | false => False)
  | _ => (match xq_cls o with
    | .inl ci' => (match Nat.beq ci ci' && Nat.blt o nx with
      | true => (match kind with
        | 2 => xq_lit (xq_rf o k) (fun t => match Nat.beq nx 81 with
            | true => K (xR t)
            | false => h o kI = (t : Int) + 1 ∧ K (xR t))
        | 3 => ∃ t : Nat, h o kI = (t : Int) + 1 ∧ t < 80 ∧ K (xR t)
        | _ => K (xI (h o kI)))
      | false => False)
    | _ => False)
def xq_pf (kind ci k : Nat) (kI : Int) (nx : Nat) (h : xq_H) (o : Nat) (v : xq_V) (K : xq_H → Prop) : Prop := match xq_cls o with
  | .inl ci' => (match Nat.beq ci ci' && Nat.blt o nx with
    | true => (match kind, v with
      | 0, .inl x => K (xq_u h o kI x)
      | 1, .inl x => (x = 0 ∨ x = 1) ∧ K (xq_u h o kI x)
      | 2, .inr (.inr t) => (match Nat.beq nx 81 with
        | true => False
        | false => (t = xq_rf o k ∧ t < 80) ∧ K (xq_u h o kI ((t : Int) + 1)))
      | 3, .inr (.inr t) => t < 80 ∧ K (xq_u h o kI ((t : Int) + 1))
      | _, _ => False)
    | false => False)
  | _ => False
def xq_cz (c : ClassFile.Cond) (a b : Int) (K1 K2 : Prop) : Prop := match c with
  | .eq => (a = b → K1) ∧ (¬ a = b → K2)
  | .ne => (¬ a = b → K1) ∧ (a = b → K2)
  | .lt => (a < b → K1) ∧ (¬ a < b → K2)
  | .ge => (¬ a < b → K1) ∧ (a < b → K2)
  | .gt => (b < a → K1) ∧ (¬ b < a → K2)
  | .le => (¬ b < a → K1) ∧ (b < a → K2)
def xq_ari (md : Nat) (x : Int) (K : Int → Prop) : Prop := match md with
  | 0 => (-2147483648 ≤ x ∧ x ≤ 2147483647) ∧ K x
  | _ => K (xq_wr x)
def xq_ir (rt : Nat) (v : Int) (K : Prop) : Prop := match rt with
  | 0 => K
  | 1 => (v = 0 ∨ v = 1) ∧ K
  | 2 => (0 ≤ v ∧ v ≤ 65535) ∧ K
  | _ => (-128 ≤ v ∧ v ≤ 127) ∧ K
def xq_at (rows : List (List xq_Row)) (n : Nat) : Option xq_Row := (rows.getD (n / 16) [])[n % 16]?
abbrev xq_KT : Type := Nat → xq_L → List xq_V → Nat → xq_H → Prop
/-- one instruction: what must hold for it to go on (C: calls; Q: the return) -/
def xq_exec (C : Nat → List xq_V → Nat → xq_H → (Option xq_V → xq_H → Prop) → Prop) (nxE : Nat) (Q : Option xq_V → xq_H → Prop) (K : xq_KT) (r : Option xq_Row) (L : xq_L) (S : List xq_V) (nx : Nat) (h : xq_H) : Prop := match r with
  | none => False
  | some (ins, (_, _, nxt), ax, vs) => match ins with
    | .iload_n k => (match xq_get L k.val with | some (.inl i) => K nxt L (xI i :: S) nx h | _ => False)
    | .iload k => (match xq_get L k with | some (.inl i) => K nxt L (xI i :: S) nx h | _ => False)
    | .lload_n k => (match xq_get L k.val with | some (.inr (.inl i)) => K nxt L (xJ i :: S) nx h | _ => False)
    | .lload k => (match xq_get L k with | some (.inr (.inl i)) => K nxt L (xJ i :: S) nx h | _ => False)
    | .aload_n k => (match xq_get L k.val with | some (.inr (.inr i)) => K nxt L (xR i :: S) nx h | _ => False)
    | .aload k => (match xq_get L k with | some (.inr (.inr i)) => K nxt L (xR i :: S) nx h | _ => False)
    | .istore_n k => (match S with | .inl i :: S' => xq_st L k.val (xI i) (fun L' => K nxt L' S' nx h) | _ => False)
    | .istore k => (match S with | .inl i :: S' => xq_st L k (xI i) (fun L' => K nxt L' S' nx h) | _ => False)
    | .astore_n k => (match S with | .inr (.inr i) :: S' => xq_st L k.val (xR i) (fun L' => K nxt L' S' nx h) | _ => False)
    | .astore k => (match S with | .inr (.inr i) :: S' => xq_st L k (xR i) (fun L' => K nxt L' S' nx h) | _ => False)
    | .lstore k => (match S with | .inr (.inl i) :: S' => xq_st2 L k (xJ i) (fun L' => K nxt L' S' nx h) | _ => False)
    | .iconst n => K nxt L (xI n :: S) nx h
    | .bipush n => K nxt L (xI n :: S) nx h
    | .sipush n => K nxt L (xI n :: S) nx h
    | .lconst n => (match vs with | [v] => K nxt L (xJ v :: S) nx h | _ => False)
    | .ldc _ => (match ax, vs with
      | [0, _], [v] => K nxt L (xI v :: S) nx h
      | [1, i, _], _ => K nxt L (xR (1100 + i) :: S) nx h
      | _, _ => False)
    | .ldc_w _ => (match vs with | [v] => K nxt L (xI v :: S) nx h | _ => False)
    | .ldc2_w _ => (match vs with | [v] => K nxt L (xJ v :: S) nx h | _ => False)
    | .iadd => (match ax, S with | [md], .inl b :: .inl a :: S' => xq_ari md (a + b) (fun x => K nxt L (xI x :: S') nx h) | _, _ => False)
    | .isub => (match ax, S with | [md], .inl b :: .inl a :: S' => xq_ari md (a - b) (fun x => K nxt L (xI x :: S') nx h) | _, _ => False)
    | .imul => (match ax, S with | [md], .inl b :: .inl a :: S' => xq_ari md (a * b) (fun x => K nxt L (xI x :: S') nx h) | _, _ => False)
    | .ineg => (match ax, S with | [md], .inl a :: S' => xq_ari md (-a) (fun x => K nxt L (xI x :: S') nx h) | _, _ => False)
    | .idiv => (match S with | .inl b :: .inl a :: S' => (0 ≤ a ∧ 0 < b) ∧ K nxt L (xI (a / b) :: S') nx h | _ => False)
    | .irem => (match S with | .inl b :: .inl a :: S' => (0 ≤ a ∧ 0 < b) ∧ K nxt L (xI (a % b) :: S') nx h | _ => False)
    | .ldiv => (match S with | .inr (.inl b) :: .inr (.inl a) :: S' => (0 ≤ a ∧ 0 < b) ∧ K nxt L (xJ (a / b) :: S') nx h | _ => False)
    | .lrem => (match S with | .inr (.inl b) :: .inr (.inl a) :: S' => (0 ≤ a ∧ 0 < b) ∧ K nxt L (xJ (a % b) :: S') nx h | _ => False)
    | .lcmp => (match S with | .inr (.inl b) :: .inr (.inl a) :: S' => K nxt L (xI (xq_lc a b) :: S') nx h | _ => False)
    | .ishl => (match S with | .inl b :: .inl a :: S' => K nxt L (xI (xq_shl a b) :: S') nx h | _ => False)
    | .ishr => (match S with | .inl b :: .inl a :: S' => K nxt L (xI (xq_shr a b) :: S') nx h | _ => False)
    | .iushr => (match S with | .inl b :: .inl a :: S' => K nxt L (xI (xq_ushr a b) :: S') nx h | _ => False)
    | .iand => (match S with | .inl b :: .inl a :: S' => K nxt L (xI (xq_and a b) :: S') nx h | _ => False)
    | .ior => (match S with | .inl b :: .inl a :: S' => K nxt L (xI (xq_or a b) :: S') nx h | _ => False)
    | .ixor => (match S with | .inl b :: .inl a :: S' => K nxt L (xI (xq_xor a b) :: S') nx h | _ => False)
    | .i2l => (match S with | .inl a :: S' => K nxt L (xJ a :: S') nx h | _ => False)
    | .i2c => (match S with | .inl a :: S' => (0 ≤ a ∧ a ≤ 65535) ∧ K nxt L (xI a :: S') nx h | _ => False)
    | .i2b => (match S with | .inl a :: S' => (0 ≤ a ∧ a ≤ 127) ∧ K nxt L (xI a :: S') nx h | _ => False)
    | .iinc k n => (match xq_get L k with | some (.inl i) => xq_ari 0 (i + n) (fun x => xq_st L k (xI x) (fun L' => K nxt L' S nx h)) | _ => False)
    | .dup => (match S with | .inl a :: S' => K nxt L (xI a :: xI a :: S') nx h | .inr (.inr a) :: S' => K nxt L (xR a :: xR a :: S') nx h | _ => False)
    | .dup2 => (match S with | .inl a :: .inr (.inr b) :: S' => K nxt L (xI a :: xR b :: xI a :: xR b :: S') nx h | _ => False)
    | .pop => (match S with | .inl _ :: S' => K nxt L S' nx h | .inr (.inr _) :: S' => K nxt L S' nx h | _ => False)
    | .getfield _ => (match ax, vs, S with | [kind, ci, k, _], [kI], .inr (.inr o) :: S' => xq_gf kind ci k kI nx h o (fun v => K nxt L (v :: S') nx h) | _, _, _ => False)
    | .putfield _ => (match ax, vs, S with | [kind, ci, k, _, _], [kI], v :: .inr (.inr o) :: S' => xq_pf kind ci k kI nx h o v (fun h' => K nxt L S' nx h') | _, _, _ => False)
    | .getstatic _ => (match ax with | [0, o, _, _] => K nxt L (xR o :: S) nx h | [1, _, _, _] => K nxt L (xI 1 :: S) nx h | _ => False)
    | .iaload => (match S with | .inl i :: .inr (.inr o) :: S' => xq_ild nx h o i (fun x => K nxt L (xI x :: S') nx h) | _ => False)
    | .baload => (match S with | .inl i :: .inr (.inr o) :: S' => xq_bld nx h o i (fun x => K nxt L (xI x :: S') nx h) | _ => False)
    | .arraylength => (match S with | .inr (.inr o) :: S' => xq_len nx h o (fun x => K nxt L (xI x :: S') nx h) | _ => False)
    | .iastore => (match S with | .inl v :: .inl i :: .inr (.inr o) :: S' => xq_ast 0 nx h o i v (fun h' => K nxt L S' nx h') | _ => False)
    | .bastore => (match S with | .inl v :: .inl i :: .inr (.inr o) :: S' => (v = 0 ∨ v = 1) ∧ xq_ast 1 nx h o i v (fun h' => K nxt L S' nx h') | _ => False)
    | .newarray _ => (match ax, S with
      | [t], .inl n :: S' => (match xq_cls nx with
        | .inr (t', n') => (match Nat.beq t t' && Nat.blt nx nxE with
          | true => n = (n' : Int) ∧ K nxt L (xR nx :: S') (nx + 1) (xq_z h nx)
          | false => False)
        | _ => False)
      | _, _ => False)
    | .new _ => (match ax with
      | [ci, _, _, _] => (match xq_cls nx with
        | .inl ci' => (match Nat.beq ci ci' && Nat.blt nx nxE with
          | true => K nxt L (xR nx :: S) (nx + 1) (xq_z h nx)
          | false => False)
        | _ => False)
      | _ => False)
    | .goto _ => (match ax with | [t] => K t L S nx h | _ => False)
    | .ifCond c _ => (match ax, S with | [t], .inl a :: S' => xq_cz c a 0 (K t L S' nx h) (K nxt L S' nx h) | _, _ => False)
    | .if_icmp c _ => (match ax, S with | [t], .inl b :: .inl a :: S' => xq_cz c a b (K t L S' nx h) (K nxt L S' nx h) | _, _ => False)
    | .tableswitch _ _ _ _ => (match ax, S with | d :: ts, .inl a :: S' => xq_sw (fun t => K t L S' nx h) d a ts vs | _, _ => False)
    | .lookupswitch _ _ => (match ax, S with | d :: ts, .inl a :: S' => xq_sw (fun t => K t L S' nx h) d a ts vs | _, _ => False)
    | .invokevirtual _ => (match ax with
      | y :: n :: bc :: rci :: _ => (match xq_pop (n + 1) [] S with
        | some (.inr (.inr o) :: as, S') => (match (match rci with | 99 => Nat.ble 1100 o && Nat.ble o 1109 | _ => (match xq_cls o with | .inl ci => Nat.beq ci rci && Nat.blt o nx | _ => false)) && Nat.ble (xq_cat S') 8 && Nat.ble (nx + bc) nxE with
          | true => C y (xR o :: as) nx h (fun v h' => match v with | none => K nxt L S' (nx + bc) h' | some w => K nxt L (w :: S') (nx + bc) h')
          | false => False)
        | _ => False)
      | _ => False)
    | .invokestatic _ => (match ax with
      | y :: n :: bc :: _ => (match xq_pop n [] S with
        | some (as, S') => (match Nat.ble (xq_cat S') 8 && Nat.ble (nx + bc) nxE with
          | true => C y as nx h (fun v h' => match v with | none => K nxt L S' (nx + bc) h' | some w => K nxt L (w :: S') (nx + bc) h')
          | false => False)
        | _ => False)
      | _ => False)
    | .invokespecial _ => (match ax with
      | [_] => (match S with | .inr (.inr _) :: S' => (match Nat.ble (xq_cat S') 8 with | true => K nxt L S' nx h | false => False) | _ => False)
      | y :: n :: bc :: _ => (match xq_pop (n + 1) [] S with
        | some (.inr (.inr o) :: as, S') => (match Nat.ble (xq_cat S') 8 && Nat.ble (nx + bc) nxE with
          | true => C y (xR o :: as) nx h (fun v h' => match v with | none => K nxt L S' (nx + bc) h' | some w => K nxt L (w :: S') (nx + bc) h')
          | false => False)
        | _ => False)
      | _ => False)
    | .ireturn => (match ax, S with | [rt], [.inl v] => (match Nat.beq nx nxE with | true => xq_ir rt v (Q (some (xI v)) h) | false => False) | _, _ => False)
    | .lreturn => (match S with | [.inr (.inl v)] => (match Nat.beq nx nxE with | true => Q (some (xJ v)) h | false => False) | _ => False)
    | .areturn => (match S with | [.inr (.inr o)] => (match Nat.beq nx nxE with | true => Q (some (xR o)) h | false => False) | _ => False)
    | .return_ => (match S with | [] => (match Nat.beq nx nxE with | true => Q none h | false => False) | _ => False)
    | _ => False
/-- closed under an instruction -/
def xq_sound (C : Nat → List xq_V → Nat → xq_H → (Option xq_V → xq_H → Prop) → Prop) (rows : List (List xq_Row)) (nxE : Nat) (Q : Option xq_V → xq_H → Prop) (K : xq_KT) : Prop :=
  ∀ (K' : xq_KT) (pc : Nat) (L : xq_L) (S : List xq_V) (nx : Nat) (h : xq_H), (∀ pc L S nx h, K' pc L S nx h → K pc L S nx h) → xq_exec C nxE Q K' (xq_at rows pc) L S nx h → K pc L S nx h
def xq_in (n : Nat) : List Nat → Bool
  | [] => false
  | a :: l => match Nat.beq n a with
    | true => true
    | false => xq_in n l
/-- n instructions, or till a place of 'cuts' comes again -/
def xq_blk (C : Nat → List xq_V → Nat → xq_H → (Option xq_V → xq_H → Prop) → Prop) (rows : List (List xq_Row)) (nxE : Nat) (Q : Option xq_V → xq_H → Prop) (K : xq_KT) (cuts : List Nat) : Nat → xq_KT
  | 0, pc, L, S, nx, h => K pc L S nx h
  | n + 1, pc, L, S, nx, h => xq_exec C nxE Q (fun pc' L' S' nx' h' => match xq_in pc' cuts with
    | true => K pc' L' S' nx' h'
    | false => xq_blk C rows nxE Q K cuts n pc' L' S' nx' h') (xq_at rows pc) L S nx h
theorem xq_go {C : Nat → List xq_V → Nat → xq_H → (Option xq_V → xq_H → Prop) → Prop} {rows : List (List xq_Row)} {nxE : Nat} {Q : Option xq_V → xq_H → Prop} {K : xq_KT} (hK : xq_sound C rows nxE Q K) (cuts : List Nat) : ∀ (n : Nat) {pc : Nat} {L : xq_L} {S : List xq_V} {nx : Nat} {h : xq_H}, xq_blk C rows nxE Q K cuts n pc L S nx h → K pc L S nx h := by
  intro n
  induction n with
  | zero => intro pc L S nx h k; exact k
  | succ n ih =>
    intro pc L S nx h k
    refine hK _ pc L S nx h (fun pc' L' S' nx' h' k' => ?_) k
    split at k'
    · exact k'
    · exact ih k'
end
section
/-! the methods' numbers -/
abbrev y_JM_min : Nat := 0
abbrev y_JM_max : Nat := 1
abbrev y_JM_floorMod : Nat := 2
abbrev y_JI_bitCount : Nat := 3
abbrev y_JS_length : Nat := 4
abbrev y_JS_coder : Nat := 5
abbrev y_JS_isLatin1 : Nat := 6
abbrev y_JS_charAt : Nat := 7
abbrev y_JS_checkIndex : Nat := 8
abbrev y_JS_indexOf : Nat := 9
abbrev y_JS_indexOf2 : Nat := 10
abbrev y_JL_charAt : Nat := 11
abbrev y_JL_canEncode : Nat := 12
abbrev y_JL_indexOf : Nat := 13
abbrev y_JL_indexOfChar : Nat := 14
abbrev y_JP_checkIndex : Nat := 15
abbrev y_A_init : Nat := 16
abbrev y_A_forget : Nat := 17
abbrev y_A_start : Nat := 18
abbrev y_A_run : Nat := 19
abbrev y_A_holderOf : Nat := 20
abbrev y_A_begin : Nat := 21
abbrev y_B_init : Nat := 22
abbrev y_B_add : Nat := 23
abbrev y_B_copy : Nat := 24
abbrev y_C_init : Nat := 25
abbrev y_C_has : Nat := 26
abbrev y_C_add : Nat := 27
abbrev y_C_copy : Nat := 28
abbrev y_K_init : Nat := 29
abbrev y_K_settle : Nat := 30
abbrev y_K_typeOnce : Nat := 31
abbrev y_K_madeOf : Nat := 32
abbrev y_K_costOf : Nat := 33
abbrev y_K_priceOf : Nat := 34
abbrev y_K_plainFar : Nat := 35
abbrev y_K_slipsInto : Nat := 36
abbrev y_K_kindOf : Nat := 37
abbrev y_K_spread : Nat := 38
abbrev y_K_spreadCost : Nat := 39
abbrev y_K_factsOf : Nat := 40
abbrev y_K_spreadFar : Nat := 41
abbrev y_K_isBeginning : Nat := 42
abbrev y_K_leastSum : Nat := 43
abbrev y_P_init : Nat := 44
abbrev y_P_clear : Nat := 45
abbrev y_P_put : Nat := 46
abbrev y_P_close : Nat := 47
abbrev y_P_extra : Nat := 48
abbrev y_P_holds : Nat := 49
abbrev y_P_passes : Nat := 50
abbrev y_P_copy : Nat := 51
abbrev y_R_init : Nat := 52
abbrev y_R_faultOf : Nat := 53
abbrev y_R_peek : Nat := 54
abbrev y_R_readSign : Nat := 55
abbrev y_R_readName : Nat := 56
abbrev y_R_readClause : Nat := 57
abbrev y_R_nameBy : Nat := 58
abbrev y_R_readNumber : Nat := 59
abbrev y_R_readEither : Nat := 60
abbrev y_R_readFactor : Nat := 61
abbrev y_R_readTest : Nat := 62
abbrev y_R_readOneOf : Nat := 63
abbrev y_S_init : Nat := 64
abbrev y_S_copy : Nat := 65
abbrev y_T_init : Nat := 66
abbrev y_T_add : Nat := 67
abbrev y_T_last : Nat := 68
abbrev y_T_takeBack : Nat := 69
abbrev y_T_isLeft : Nat := 70
abbrev y_T_copy : Nat := 71
abbrev y_W_init : Nat := 72
abbrev y_W_has : Nat := 73
abbrev y_W_add : Nat := 74
abbrev y_W_numberOf : Nat := 75
abbrev y_W_begins : Nat := 76
abbrev y_W_aheadOf : Nat := 77
abbrev y_W_copy : Nat := 78
abbrev y_X_init : Nat := 79
abbrev y_X_feed : Nat := 80
abbrev y_X_telephone : Nat := 81
abbrev y_X_word : Nat := 82
abbrev y_X_listed : Nat := 83
abbrev y_X_weigh : Nat := 84
abbrev y_X_behind : Nat := 85
abbrev y_X_mender : Nat := 86
abbrev y_X_of : Nat := 87
abbrev y_X_row : Nat := 88
abbrev y_X_type : Nat := 89
abbrev y_X_back : Nat := 90
abbrev y_X_send : Nat := 91
abbrev y_X_told : Nat := 92
abbrev y_X_makes : Nat := 93
abbrev y_X_cost : Nat := 94
abbrev y_X_stays : Nat := 95
abbrev y_X_touches : Nat := 96
abbrev y_X_never : Nat := 97
abbrev y_X_round : Nat := 98
abbrev y_X_stands : Nat := 99
abbrev y_X_guess : Nat := 100
abbrev y_X_letter : Nat := 101
abbrev y_X_enough : Nat := 102
abbrev y_X_slips : Nat := 103
abbrev y_X_wrong : Nat := 104
abbrev y_X_chain : Nat := 105
abbrev y_X_meant : Nat := 106
abbrev y_X_likeliest : Nat := 107
abbrev y_X_who : Nat := 108
abbrev y_X_twins : Nat := 109
abbrev y_X_room : Nat := 110
abbrev y_X_saved : Nat := 111
abbrev y_X_book : Nat := 112
abbrev y_X_looked : Nat := 113
abbrev y_X_act : Nat := 114
abbrev y_X_trace : Nat := 115
abbrev y_X_as : Nat := 116
abbrev y_X_image : Nat := 117
abbrev y_X_undo : Nat := 118
abbrev y_X_count : Nat := 119
abbrev y_X_refusalOf : Nat := 120
abbrev y_X_staysOne : Nat := 121
abbrev y_X_wayTo : Nat := 122
abbrev y_X_shortWays : Nat := 123
abbrev y_X_runChain : Nat := 124
abbrev y_X_waysFrom : Nat := 125
abbrev y_X_isAt : Nat := 126
abbrev y_X_copyInts : Nat := 127
abbrev y_X_unlikeOf : Nat := 128
abbrev y_X_isUnder : Nat := 129
abbrev y_X_isWord : Nat := 130
abbrev y_X_lettersOf : Nat := 131
abbrev y_X_withoutLast : Nat := 132
abbrev y_X_isNear : Nat := 133
abbrev y_X_slipsOf : Nat := 134
abbrev y_X_partOf : Nat := 135
abbrev y_M_init : Nat := 136
abbrev y_M_in : Nat := 137
abbrev y_M_isMender : Nat := 138
abbrev y_M_isListed : Nat := 139
abbrev y_M_isWord : Nat := 140
abbrev y_M_size : Nat := 141
abbrev y_M_first : Nat := 142
abbrev y_M_keeps : Nat := 143
abbrev y_M_goesBack : Nat := 144
abbrev y_M_feed : Nat := 145
abbrev y_M_here : Nat := 146
abbrev y_M_must : Nat := 147
abbrev y_M_spells : Nat := 148
abbrev y_M_figures : Nat := 149
abbrev y_M_among : Nat := 150
abbrev y_M_emits : Nat := 151
abbrev y_M_factor : Nat := 152
abbrev y_M_every : Nat := 153
abbrev y_M_some : Nat := 154
abbrev y_M_much : Nat := 155
abbrev y_M_tellsHere : Nat := 156
abbrev y_M_clauseHere : Nat := 157
abbrev y_M_telephone : Nat := 158
abbrev y_M_tellsOf : Nat := 159
abbrev y_M_looks : Nat := 160
abbrev y_M_indexOf : Nat := 161
abbrev y_M_word : Nat := 162
abbrev y_M_listed : Nat := 163
abbrev y_M_weigh : Nat := 164
abbrev y_M_behind : Nat := 165
abbrev y_M_mender : Nat := 166
abbrev y_M_of : Nat := 167
abbrev y_M_row : Nat := 168
abbrev y_M_areNear : Nat := 169
abbrev y_M_spellsInto : Nat := 170
abbrev y_M_lesser : Nat := 171
abbrev y_M_changes : Nat := 172
abbrev y_M_farOf : Nat := 173
abbrev y_M_looksFor : Nat := 174
abbrev y_M_costOf : Nat := 175
abbrev y_M_isLeft : Nat := 176
abbrev y_M_madeOf : Nat := 177
abbrev y_M_makesOf : Nat := 178
abbrev y_M_types : Nat := 179
abbrev y_M_type : Nat := 180
abbrev y_M_back : Nat := 181
abbrev y_M_send : Nat := 182
abbrev y_M_told : Nat := 183
abbrev y_M_makes : Nat := 184
abbrev y_M_cost : Nat := 185
abbrev y_M_staysOf : Nat := 186
abbrev y_M_stays : Nat := 187
abbrev y_M_looksForShort : Nat := 188
abbrev y_M_looksForTouches : Nat := 189
abbrev y_M_touches : Nat := 190
abbrev y_M_never : Nat := 191
abbrev y_M_round : Nat := 192
abbrev y_M_stands : Nat := 193
abbrev y_M_begins : Nat := 194
abbrev y_M_aheadOf : Nat := 195
abbrev y_M_guess : Nat := 196
abbrev y_M_letter : Nat := 197
abbrev y_M_enough : Nat := 198
abbrev y_M_slipsFrom : Nat := 199
abbrev y_M_lowest : Nat := 200
abbrev y_M_slips : Nat := 201
abbrev y_M_count1 : Nat := 202
abbrev y_M_wrong : Nat := 203
abbrev y_M_unlike : Nat := 204
abbrev y_M_goesRound : Nat := 205
abbrev y_M_chain : Nat := 206
abbrev y_M_waysOf : Nat := 207
abbrev y_M_meant : Nat := 208
abbrev y_M_likeliest : Nat := 209
abbrev y_M_who : Nat := 210
abbrev y_M_twins : Nat := 211
abbrev y_M_room : Nat := 212
abbrev y_M_saved : Nat := 213
abbrev y_M_book : Nat := 214
abbrev y_M_looked : Nat := 215
abbrev y_M_ranBody : Nat := 216
abbrev y_M_isUnder : Nat := 217
abbrev y_M_plainMends : Nat := 218
abbrev y_M_mendsActs : Nat := 219
abbrev y_M_plainLeaves : Nat := 220
abbrev y_M_leavesActs : Nat := 221
abbrev y_M_plainTells : Nat := 222
abbrev y_M_tellsActs : Nat := 223
abbrev y_M_act : Nat := 224
abbrev y_M_trace : Nat := 225
abbrev y_M_as : Nat := 226
abbrev y_M_image : Nat := 227
abbrev y_M_undo : Nat := 228
abbrev y_M_count : Nat := 229
abbrev y_L_law : Nat := 230
/-- name, code, words of locals, what it answers, objects made -/
abbrev xq_Sg : Type := MethodName × ByteArray × Nat × Option FieldType × Nat
def xq_sgl : List (List xq_Sg) := [
  [(⟨"java/lang/Math", "min", "(II)I"⟩, prog_15_method_69_code, 2, (Option.some Jvm.ClassFile.FieldType.int), 0),
   (⟨"java/lang/Math", "max", "(II)I"⟩, prog_15_method_65_code, 2, (Option.some Jvm.ClassFile.FieldType.int), 0),
   (⟨"java/lang/Math", "floorMod", "(II)I"⟩, prog_15_method_50_code, 3, (Option.some Jvm.ClassFile.FieldType.int), 0),
   (⟨"java/lang/Integer", "bitCount", "(I)I"⟩, prog_14_method_49_code, 1, (Option.some Jvm.ClassFile.FieldType.int), 0),
   (⟨"java/lang/String", "length", "()I"⟩, prog_16_method_54_code, 1, (Option.some Jvm.ClassFile.FieldType.int), 0),
   (⟨"java/lang/String", "coder", "()B"⟩, prog_16_method_152_code, 1, (Option.some Jvm.ClassFile.FieldType.byte), 0),
   (⟨"java/lang/String", "isLatin1", "()Z"⟩, prog_16_method_154_code, 1, (Option.some Jvm.ClassFile.FieldType.boolean), 0),
   (⟨"java/lang/String", "charAt", "(I)C"⟩, prog_16_method_56_code, 2, (Option.some Jvm.ClassFile.FieldType.char), 0),
   (⟨"java/lang/String", "checkIndex", "(II)V"⟩, prog_16_method_155_code, 2, (Option.none : Option Jvm.ClassFile.FieldType), 0),
   (⟨"java/lang/String", "indexOf", "(I)I"⟩, prog_16_method_79_code, 2, (Option.some Jvm.ClassFile.FieldType.int), 0),
   (⟨"java/lang/String", "indexOf", "(II)I"⟩, prog_16_method_80_code, 3, (Option.some Jvm.ClassFile.FieldType.int), 0),
   (⟨"java/lang/StringLatin1", "charAt", "([BI)C"⟩, prog_17_method_2_code, 2, (Option.some Jvm.ClassFile.FieldType.char), 0),
   (⟨"java/lang/StringLatin1", "canEncode", "(I)Z"⟩, prog_17_method_4_code, 1, (Option.some Jvm.ClassFile.FieldType.boolean), 0),
   (⟨"java/lang/StringLatin1", "indexOf", "([BIII)I"⟩, prog_17_method_22_code, 4, (Option.some Jvm.ClassFile.FieldType.int), 0),
   (⟨"java/lang/StringLatin1", "indexOfChar", "([BIII)I"⟩, prog_17_method_23_code, 6, (Option.some Jvm.ClassFile.FieldType.int), 0),
   (⟨"jdk/internal/util/Preconditions", "checkIndex", "(IILjava/util/function/BiFunction;)I"⟩, prog_19_method_11_code, 3, (Option.some Jvm.ClassFile.FieldType.int), 0)],
  [(⟨"PutBack$Acts", "<init>", "()V"⟩, prog_2_method_1_code, 1, (Option.none : Option Jvm.ClassFile.FieldType), 1),
   (⟨"PutBack$Acts", "forget", "()V"⟩, prog_2_method_2_code, 1, (Option.none : Option Jvm.ClassFile.FieldType), 0),
   (⟨"PutBack$Acts", "start", "(IIIII)I"⟩, prog_2_method_3_code, 6, (Option.some Jvm.ClassFile.FieldType.int), 0),
   (⟨"PutBack$Acts", "run", "(IIII)I"⟩, prog_2_method_4_code, 9, (Option.some Jvm.ClassFile.FieldType.int), 0),
   (⟨"PutBack$Acts", "holderOf", "(II)I"⟩, prog_2_method_5_code, 4, (Option.some Jvm.ClassFile.FieldType.int), 0),
   (⟨"PutBack$Acts", "begin", "(I)V"⟩, prog_2_method_6_code, 2, (Option.none : Option Jvm.ClassFile.FieldType), 0),
   (⟨"PutBack$Book", "<init>", "()V"⟩, prog_3_method_1_code, 1, (Option.none : Option Jvm.ClassFile.FieldType), 3),
   (⟨"PutBack$Book", "add", "(III)Z"⟩, prog_3_method_2_code, 4, (Option.some Jvm.ClassFile.FieldType.boolean), 0),
   (⟨"PutBack$Book", "copy", "(LPutBack$Book;)V"⟩, prog_3_method_3_code, 2, (Option.none : Option Jvm.ClassFile.FieldType), 0),
   (⟨"PutBack$Crew", "<init>", "()V"⟩, prog_4_method_1_code, 1, (Option.none : Option Jvm.ClassFile.FieldType), 3),
   (⟨"PutBack$Crew", "has", "(I)Z"⟩, prog_4_method_2_code, 2, (Option.some Jvm.ClassFile.FieldType.boolean), 0),
   (⟨"PutBack$Crew", "add", "(II)Z"⟩, prog_4_method_3_code, 4, (Option.some Jvm.ClassFile.FieldType.boolean), 0),
   (⟨"PutBack$Crew", "copy", "(LPutBack$Crew;)V"⟩, prog_4_method_4_code, 2, (Option.none : Option Jvm.ClassFile.FieldType), 0),
   (⟨"PutBack$Maker", "<init>", "()V"⟩, prog_5_method_1_code, 1, (Option.none : Option Jvm.ClassFile.FieldType), 28),
   (⟨"PutBack$Maker", "settle", "()V"⟩, prog_5_method_2_code, 1, (Option.none : Option Jvm.ClassFile.FieldType), 0),
   (⟨"PutBack$Maker", "typeOnce", "(II)I"⟩, prog_5_method_3_code, 4, (Option.some Jvm.ClassFile.FieldType.int), 0)],
  [(⟨"PutBack$Maker", "madeOf", "(II)I"⟩, prog_5_method_4_code, 8, (Option.some Jvm.ClassFile.FieldType.int), 0),
   (⟨"PutBack$Maker", "costOf", "(III)I"⟩, prog_5_method_5_code, 4, (Option.some Jvm.ClassFile.FieldType.int), 0),
   (⟨"PutBack$Maker", "priceOf", "(III)I"⟩, prog_5_method_6_code, 4, (Option.some Jvm.ClassFile.FieldType.int), 0),
   (⟨"PutBack$Maker", "plainFar", "(II)I"⟩, prog_5_method_7_code, 3, (Option.some Jvm.ClassFile.FieldType.int), 0),
   (⟨"PutBack$Maker", "slipsInto", "(III)I"⟩, prog_5_method_8_code, 10, (Option.some Jvm.ClassFile.FieldType.int), 0),
   (⟨"PutBack$Maker", "kindOf", "(I)I"⟩, prog_5_method_9_code, 2, (Option.some Jvm.ClassFile.FieldType.int), 0),
   (⟨"PutBack$Maker", "spread", "(I)V"⟩, prog_5_method_10_code, 4, (Option.none : Option Jvm.ClassFile.FieldType), 0),
   (⟨"PutBack$Maker", "spreadCost", "(II)I"⟩, prog_5_method_11_code, 5, (Option.some Jvm.ClassFile.FieldType.int), 0),
   (⟨"PutBack$Maker", "factsOf", "(II)[I"⟩, prog_5_method_12_code, 3, (Option.some (Jvm.ClassFile.FieldType.array Jvm.ClassFile.FieldType.int)), 0),
   (⟨"PutBack$Maker", "spreadFar", "(II)I"⟩, prog_5_method_13_code, 4, (Option.some Jvm.ClassFile.FieldType.int), 0),
   (⟨"PutBack$Maker", "isBeginning", "(I)Z"⟩, prog_5_method_14_code, 3, (Option.some Jvm.ClassFile.FieldType.boolean), 0),
   (⟨"PutBack$Maker", "leastSum", "(II)I"⟩, prog_5_method_15_code, 11, (Option.some Jvm.ClassFile.FieldType.int), 0),
   (⟨"PutBack$Phone", "<init>", "()V"⟩, prog_6_method_1_code, 1, (Option.none : Option Jvm.ClassFile.FieldType), 3),
   (⟨"PutBack$Phone", "clear", "()V"⟩, prog_6_method_2_code, 1, (Option.none : Option Jvm.ClassFile.FieldType), 0),
   (⟨"PutBack$Phone", "put", "(I)V"⟩, prog_6_method_3_code, 2, (Option.none : Option Jvm.ClassFile.FieldType), 0),
   (⟨"PutBack$Phone", "close", "(I)V"⟩, prog_6_method_4_code, 2, (Option.none : Option Jvm.ClassFile.FieldType), 0)],
  [(⟨"PutBack$Phone", "extra", "([I)I"⟩, prog_6_method_5_code, 5, (Option.some Jvm.ClassFile.FieldType.int), 0),
   (⟨"PutBack$Phone", "holds", "(II[I)Z"⟩, prog_6_method_6_code, 8, (Option.some Jvm.ClassFile.FieldType.boolean), 0),
   (⟨"PutBack$Phone", "passes", "(I[I)Z"⟩, prog_6_method_7_code, 4, (Option.some Jvm.ClassFile.FieldType.boolean), 0),
   (⟨"PutBack$Phone", "copy", "(LPutBack$Phone;)V"⟩, prog_6_method_8_code, 2, (Option.none : Option Jvm.ClassFile.FieldType), 0),
   (⟨"PutBack$Reader", "<init>", "()V"⟩, prog_7_method_1_code, 1, (Option.none : Option Jvm.ClassFile.FieldType), 5),
   (⟨"PutBack$Reader", "faultOf", "([II)I"⟩, prog_7_method_2_code, 4, (Option.some Jvm.ClassFile.FieldType.int), 0),
   (⟨"PutBack$Reader", "peek", "()I"⟩, prog_7_method_3_code, 1, (Option.some Jvm.ClassFile.FieldType.int), 0),
   (⟨"PutBack$Reader", "readSign", "(I)Z"⟩, prog_7_method_4_code, 2, (Option.some Jvm.ClassFile.FieldType.boolean), 0),
   (⟨"PutBack$Reader", "readName", "(Ljava/lang/String;)Z"⟩, prog_7_method_5_code, 3, (Option.some Jvm.ClassFile.FieldType.boolean), 0),
   (⟨"PutBack$Reader", "readClause", "()Z"⟩, prog_7_method_6_code, 3, (Option.some Jvm.ClassFile.FieldType.boolean), 0),
   (⟨"PutBack$Reader", "nameBy", "(I)Ljava/lang/String;"⟩, prog_7_method_7_code, 1, (Option.some (Jvm.ClassFile.FieldType.object "java/lang/String")), 0),
   (⟨"PutBack$Reader", "readNumber", "()I"⟩, prog_7_method_8_code, 3, (Option.some Jvm.ClassFile.FieldType.int), 0),
   (⟨"PutBack$Reader", "readEither", "(I)Z"⟩, prog_7_method_9_code, 4, (Option.some Jvm.ClassFile.FieldType.boolean), 0),
   (⟨"PutBack$Reader", "readFactor", "(I)Z"⟩, prog_7_method_10_code, 3, (Option.some Jvm.ClassFile.FieldType.boolean), 0),
   (⟨"PutBack$Reader", "readTest", "()Z"⟩, prog_7_method_11_code, 4, (Option.some Jvm.ClassFile.FieldType.boolean), 0),
   (⟨"PutBack$Reader", "readOneOf", "(Ljava/lang/String;)I"⟩, prog_7_method_12_code, 4, (Option.some Jvm.ClassFile.FieldType.int), 0)],
  [(⟨"PutBack$State", "<init>", "()V"⟩, prog_8_method_1_code, 1, (Option.none : Option Jvm.ClassFile.FieldType), 23),
   (⟨"PutBack$State", "copy", "(LPutBack$State;)V"⟩, prog_8_method_2_code, 2, (Option.none : Option Jvm.ClassFile.FieldType), 0),
   (⟨"PutBack$Text", "<init>", "()V"⟩, prog_9_method_1_code, 1, (Option.none : Option Jvm.ClassFile.FieldType), 3),
   (⟨"PutBack$Text", "add", "(II)V"⟩, prog_9_method_2_code, 3, (Option.none : Option Jvm.ClassFile.FieldType), 0),
   (⟨"PutBack$Text", "last", "()I"⟩, prog_9_method_3_code, 1, (Option.some Jvm.ClassFile.FieldType.int), 0),
   (⟨"PutBack$Text", "takeBack", "()Z"⟩, prog_9_method_4_code, 2, (Option.some Jvm.ClassFile.FieldType.boolean), 0),
   (⟨"PutBack$Text", "isLeft", "(I)Z"⟩, prog_9_method_5_code, 3, (Option.some Jvm.ClassFile.FieldType.boolean), 0),
   (⟨"PutBack$Text", "copy", "(LPutBack$Text;)V"⟩, prog_9_method_6_code, 2, (Option.none : Option Jvm.ClassFile.FieldType), 0),
   (⟨"PutBack$Words", "<init>", "()V"⟩, prog_10_method_1_code, 1, (Option.none : Option Jvm.ClassFile.FieldType), 5),
   (⟨"PutBack$Words", "has", "(I)Z"⟩, prog_10_method_2_code, 2, (Option.some Jvm.ClassFile.FieldType.boolean), 0),
   (⟨"PutBack$Words", "add", "(II)Z"⟩, prog_10_method_3_code, 5, (Option.some Jvm.ClassFile.FieldType.boolean), 0),
   (⟨"PutBack$Words", "numberOf", "(I)I"⟩, prog_10_method_4_code, 3, (Option.some Jvm.ClassFile.FieldType.int), 0),
   (⟨"PutBack$Words", "begins", "(II)Z"⟩, prog_10_method_5_code, 4, (Option.some Jvm.ClassFile.FieldType.boolean), 0),
   (⟨"PutBack$Words", "aheadOf", "(II)I"⟩, prog_10_method_6_code, 6, (Option.some Jvm.ClassFile.FieldType.int), 0),
   (⟨"PutBack$Words", "copy", "(LPutBack$Words;)V"⟩, prog_10_method_7_code, 2, (Option.none : Option Jvm.ClassFile.FieldType), 0),
   (⟨"PutBack", "<init>", "()V"⟩, prog_1_method_1_code, 1, (Option.none : Option Jvm.ClassFile.FieldType), 63)],
  [(⟨"PutBack", "feed", "(I)I"⟩, prog_1_method_2_code, 2, (Option.some Jvm.ClassFile.FieldType.int), 0),
   (⟨"PutBack", "telephone", "()I"⟩, prog_1_method_3_code, 2, (Option.some Jvm.ClassFile.FieldType.int), 0),
   (⟨"PutBack", "word", "(II)I"⟩, prog_1_method_4_code, 3, (Option.some Jvm.ClassFile.FieldType.int), 0),
   (⟨"PutBack", "listed", "(II)I"⟩, prog_1_method_5_code, 3, (Option.some Jvm.ClassFile.FieldType.int), 0),
   (⟨"PutBack", "weigh", "(II)I"⟩, prog_1_method_6_code, 4, (Option.some Jvm.ClassFile.FieldType.int), 0),
   (⟨"PutBack", "behind", "(IIZ)I"⟩, prog_1_method_7_code, 6, (Option.some Jvm.ClassFile.FieldType.int), 0),
   (⟨"PutBack", "mender", "(II)I"⟩, prog_1_method_8_code, 3, (Option.some Jvm.ClassFile.FieldType.int), 0),
   (⟨"PutBack", "of", "(II)I"⟩, prog_1_method_9_code, 3, (Option.some Jvm.ClassFile.FieldType.int), 0),
   (⟨"PutBack", "row", "(III)I"⟩, prog_1_method_10_code, 6, (Option.some Jvm.ClassFile.FieldType.int), 0),
   (⟨"PutBack", "type", "(II)I"⟩, prog_1_method_11_code, 4, (Option.some Jvm.ClassFile.FieldType.int), 0),
   (⟨"PutBack", "back", "()I"⟩, prog_1_method_12_code, 1, (Option.some Jvm.ClassFile.FieldType.int), 0),
   (⟨"PutBack", "send", "()I"⟩, prog_1_method_13_code, 2, (Option.some Jvm.ClassFile.FieldType.int), 0),
   (⟨"PutBack", "told", "(I)I"⟩, prog_1_method_14_code, 3, (Option.some Jvm.ClassFile.FieldType.int), 0),
   (⟨"PutBack", "makes", "(II)I"⟩, prog_1_method_15_code, 4, (Option.some Jvm.ClassFile.FieldType.int), 0),
   (⟨"PutBack", "cost", "(IIII)I"⟩, prog_1_method_16_code, 5, (Option.some Jvm.ClassFile.FieldType.int), 0),
   (⟨"PutBack", "stays", "(I)I"⟩, prog_1_method_17_code, 4, (Option.some Jvm.ClassFile.FieldType.int), 0)],
  [(⟨"PutBack", "touches", "(III)I"⟩, prog_1_method_18_code, 7, (Option.some Jvm.ClassFile.FieldType.int), 0),
   (⟨"PutBack", "never", "(I)I"⟩, prog_1_method_19_code, 4, (Option.some Jvm.ClassFile.FieldType.int), 0),
   (⟨"PutBack", "round", "(III)I"⟩, prog_1_method_20_code, 6, (Option.some Jvm.ClassFile.FieldType.int), 0),
   (⟨"PutBack", "stands", "(II)I"⟩, prog_1_method_21_code, 5, (Option.some Jvm.ClassFile.FieldType.int), 0),
   (⟨"PutBack", "guess", "(II)I"⟩, prog_1_method_22_code, 4, (Option.some Jvm.ClassFile.FieldType.int), 0),
   (⟨"PutBack", "letter", "(I)I"⟩, prog_1_method_23_code, 4, (Option.some Jvm.ClassFile.FieldType.int), 0),
   (⟨"PutBack", "enough", "(II)I"⟩, prog_1_method_24_code, 4, (Option.some Jvm.ClassFile.FieldType.int), 0),
   (⟨"PutBack", "slips", "(III)J"⟩, prog_1_method_25_code, 4, (Option.some Jvm.ClassFile.FieldType.long), 0),
   (⟨"PutBack", "wrong", "(II)J"⟩, prog_1_method_26_code, 3, (Option.some Jvm.ClassFile.FieldType.long), 0),
   (⟨"PutBack", "chain", "(III)I"⟩, prog_1_method_27_code, 5, (Option.some Jvm.ClassFile.FieldType.int), 0),
   (⟨"PutBack", "meant", "(II)I"⟩, prog_1_method_28_code, 6, (Option.some Jvm.ClassFile.FieldType.int), 0),
   (⟨"PutBack", "likeliest", "(II)I"⟩, prog_1_method_29_code, 8, (Option.some Jvm.ClassFile.FieldType.int), 0),
   (⟨"PutBack", "who", "(II)I"⟩, prog_1_method_30_code, 5, (Option.some Jvm.ClassFile.FieldType.int), 0),
   (⟨"PutBack", "twins", "()I"⟩, prog_1_method_31_code, 6, (Option.some Jvm.ClassFile.FieldType.int), 0),
   (⟨"PutBack", "room", "(I)I"⟩, prog_1_method_32_code, 2, (Option.some Jvm.ClassFile.FieldType.int), 0),
   (⟨"PutBack", "saved", "(I)I"⟩, prog_1_method_33_code, 4, (Option.some Jvm.ClassFile.FieldType.int), 0)],
  [(⟨"PutBack", "book", "(III)I"⟩, prog_1_method_34_code, 4, (Option.some Jvm.ClassFile.FieldType.int), 0),
   (⟨"PutBack", "looked", "()I"⟩, prog_1_method_35_code, 3, (Option.some Jvm.ClassFile.FieldType.int), 0),
   (⟨"PutBack", "act", "(III)I"⟩, prog_1_method_36_code, 4, (Option.some Jvm.ClassFile.FieldType.int), 0),
   (⟨"PutBack", "trace", "(I)I"⟩, prog_1_method_37_code, 2, (Option.some Jvm.ClassFile.FieldType.int), 0),
   (⟨"PutBack", "as", "(II)I"⟩, prog_1_method_38_code, 3, (Option.some Jvm.ClassFile.FieldType.int), 0),
   (⟨"PutBack", "image", "()I"⟩, prog_1_method_39_code, 1, (Option.some Jvm.ClassFile.FieldType.int), 0),
   (⟨"PutBack", "undo", "()I"⟩, prog_1_method_40_code, 1, (Option.some Jvm.ClassFile.FieldType.int), 0),
   (⟨"PutBack", "count", "(I)I"⟩, prog_1_method_41_code, 2, (Option.some Jvm.ClassFile.FieldType.int), 0),
   (⟨"PutBack", "refusalOf", "(II)I"⟩, prog_1_method_42_code, 3, (Option.some Jvm.ClassFile.FieldType.int), 0),
   (⟨"PutBack", "staysOne", "(II)Z"⟩, prog_1_method_43_code, 4, (Option.some Jvm.ClassFile.FieldType.boolean), 0),
   (⟨"PutBack", "wayTo", "(II)I"⟩, prog_1_method_44_code, 4, (Option.some Jvm.ClassFile.FieldType.int), 0),
   (⟨"PutBack", "shortWays", "(I)I"⟩, prog_1_method_45_code, 5, (Option.some Jvm.ClassFile.FieldType.int), 0),
   (⟨"PutBack", "runChain", "(II)I"⟩, prog_1_method_46_code, 9, (Option.some Jvm.ClassFile.FieldType.int), 0),
   (⟨"PutBack", "waysFrom", "(III)I"⟩, prog_1_method_47_code, 6, (Option.some Jvm.ClassFile.FieldType.int), 0),
   (⟨"PutBack", "isAt", "(II)Z"⟩, prog_1_method_48_code, 2, (Option.some Jvm.ClassFile.FieldType.boolean), 0),
   (⟨"PutBack", "copyInts", "([I[I)V"⟩, prog_1_method_49_code, 4, (Option.none : Option Jvm.ClassFile.FieldType), 0)],
  [(⟨"PutBack", "unlikeOf", "([II)I"⟩, prog_1_method_50_code, 6, (Option.some Jvm.ClassFile.FieldType.int), 0),
   (⟨"PutBack", "isUnder", "(II)Z"⟩, prog_1_method_51_code, 4, (Option.some Jvm.ClassFile.FieldType.boolean), 0),
   (⟨"PutBack", "isWord", "(I)Z"⟩, prog_1_method_52_code, 1, (Option.some Jvm.ClassFile.FieldType.boolean), 0),
   (⟨"PutBack", "lettersOf", "(I)I"⟩, prog_1_method_53_code, 4, (Option.some Jvm.ClassFile.FieldType.int), 0),
   (⟨"PutBack", "withoutLast", "(II)I"⟩, prog_1_method_54_code, 4, (Option.some Jvm.ClassFile.FieldType.int), 0),
   (⟨"PutBack", "isNear", "(II)Z"⟩, prog_1_method_55_code, 3, (Option.some Jvm.ClassFile.FieldType.boolean), 0),
   (⟨"PutBack", "slipsOf", "(I)I"⟩, prog_1_method_56_code, 5, (Option.some Jvm.ClassFile.FieldType.int), 0),
   (⟨"PutBack", "partOf", "(III)J"⟩, prog_1_method_57_code, 7, (Option.some Jvm.ClassFile.FieldType.long), 0),
   (⟨"PutBackModel", "<init>", "()V"⟩, prog_12_method_1_code, 1, (Option.none : Option Jvm.ClassFile.FieldType), 15),
   (⟨"PutBackModel", "in", "(III)Z"⟩, prog_12_method_3_code, 3, (Option.some Jvm.ClassFile.FieldType.boolean), 0),
   (⟨"PutBackModel", "isMender", "(I)Z"⟩, prog_12_method_4_code, 2, (Option.some Jvm.ClassFile.FieldType.boolean), 0),
   (⟨"PutBackModel", "isListed", "(I)Z"⟩, prog_12_method_5_code, 2, (Option.some Jvm.ClassFile.FieldType.boolean), 0),
   (⟨"PutBackModel", "isWord", "(I)Z"⟩, prog_12_method_6_code, 3, (Option.some Jvm.ClassFile.FieldType.boolean), 0),
   (⟨"PutBackModel", "size", "(I)I"⟩, prog_12_method_7_code, 3, (Option.some Jvm.ClassFile.FieldType.int), 0),
   (⟨"PutBackModel", "first", "(II)I"⟩, prog_12_method_8_code, 4, (Option.some Jvm.ClassFile.FieldType.int), 0),
   (⟨"PutBackModel", "keeps", "()V"⟩, prog_12_method_9_code, 2, (Option.none : Option Jvm.ClassFile.FieldType), 0)],
  [(⟨"PutBackModel", "goesBack", "()V"⟩, prog_12_method_10_code, 2, (Option.none : Option Jvm.ClassFile.FieldType), 0),
   (⟨"PutBackModel", "feed", "(I)I"⟩, prog_12_method_11_code, 2, (Option.some Jvm.ClassFile.FieldType.int), 0),
   (⟨"PutBackModel", "here", "()I"⟩, prog_12_method_12_code, 1, (Option.some Jvm.ClassFile.FieldType.int), 0),
   (⟨"PutBackModel", "must", "(I)V"⟩, prog_12_method_13_code, 2, (Option.none : Option Jvm.ClassFile.FieldType), 0),
   (⟨"PutBackModel", "spells", "(Ljava/lang/String;)V"⟩, prog_12_method_14_code, 3, (Option.none : Option Jvm.ClassFile.FieldType), 0),
   (⟨"PutBackModel", "figures", "()I"⟩, prog_12_method_15_code, 3, (Option.some Jvm.ClassFile.FieldType.int), 0),
   (⟨"PutBackModel", "among", "(Ljava/lang/String;)I"⟩, prog_12_method_16_code, 3, (Option.some Jvm.ClassFile.FieldType.int), 0),
   (⟨"PutBackModel", "emits", "(I)V"⟩, prog_12_method_17_code, 2, (Option.none : Option Jvm.ClassFile.FieldType), 0),
   (⟨"PutBackModel", "factor", "()V"⟩, prog_12_method_18_code, 5, (Option.none : Option Jvm.ClassFile.FieldType), 0),
   (⟨"PutBackModel", "every", "()V"⟩, prog_12_method_19_code, 1, (Option.none : Option Jvm.ClassFile.FieldType), 0),
   (⟨"PutBackModel", "some", "()V"⟩, prog_12_method_20_code, 1, (Option.none : Option Jvm.ClassFile.FieldType), 0),
   (⟨"PutBackModel", "much", "(ILjava/lang/String;)V"⟩, prog_12_method_21_code, 4, (Option.none : Option Jvm.ClassFile.FieldType), 0),
   (⟨"PutBackModel", "tellsHere", "(ILjava/lang/String;)V"⟩, prog_12_method_22_code, 4, (Option.none : Option Jvm.ClassFile.FieldType), 0),
   (⟨"PutBackModel", "clauseHere", "()V"⟩, prog_12_method_23_code, 1, (Option.none : Option Jvm.ClassFile.FieldType), 0),
   (⟨"PutBackModel", "telephone", "()I"⟩, prog_12_method_24_code, 2, (Option.some Jvm.ClassFile.FieldType.int), 0),
   (⟨"PutBackModel", "tellsOf", "(II)I"⟩, prog_12_method_25_code, 3, (Option.some Jvm.ClassFile.FieldType.int), 0)],
  [(⟨"PutBackModel", "looks", "(III)I"⟩, prog_12_method_26_code, 13, (Option.some Jvm.ClassFile.FieldType.int), 0),
   (⟨"PutBackModel", "indexOf", "(I)I"⟩, prog_12_method_27_code, 3, (Option.some Jvm.ClassFile.FieldType.int), 0),
   (⟨"PutBackModel", "word", "(II)I"⟩, prog_12_method_28_code, 5, (Option.some Jvm.ClassFile.FieldType.int), 0),
   (⟨"PutBackModel", "listed", "(II)I"⟩, prog_12_method_29_code, 3, (Option.some Jvm.ClassFile.FieldType.int), 0),
   (⟨"PutBackModel", "weigh", "(II)I"⟩, prog_12_method_30_code, 4, (Option.some Jvm.ClassFile.FieldType.int), 0),
   (⟨"PutBackModel", "behind", "(IIZ)I"⟩, prog_12_method_31_code, 5, (Option.some Jvm.ClassFile.FieldType.int), 0),
   (⟨"PutBackModel", "mender", "(II)I"⟩, prog_12_method_32_code, 5, (Option.some Jvm.ClassFile.FieldType.int), 0),
   (⟨"PutBackModel", "of", "(II)I"⟩, prog_12_method_33_code, 3, (Option.some Jvm.ClassFile.FieldType.int), 0),
   (⟨"PutBackModel", "row", "(III)I"⟩, prog_12_method_34_code, 5, (Option.some Jvm.ClassFile.FieldType.int), 0),
   (⟨"PutBackModel", "areNear", "(II)Z"⟩, prog_12_method_35_code, 4, (Option.some Jvm.ClassFile.FieldType.boolean), 0),
   (⟨"PutBackModel", "spellsInto", "(I[I)V"⟩, prog_12_method_36_code, 5, (Option.none : Option Jvm.ClassFile.FieldType), 0),
   (⟨"PutBackModel", "lesser", "(II)I"⟩, prog_12_method_37_code, 2, (Option.some Jvm.ClassFile.FieldType.int), 0),
   (⟨"PutBackModel", "changes", "(IIZ)I"⟩, prog_12_method_38_code, 10, (Option.some Jvm.ClassFile.FieldType.int), 0),
   (⟨"PutBackModel", "farOf", "(III)I"⟩, prog_12_method_39_code, 6, (Option.some Jvm.ClassFile.FieldType.int), 0),
   (⟨"PutBackModel", "looksFor", "(II)V"⟩, prog_12_method_40_code, 4, (Option.none : Option Jvm.ClassFile.FieldType), 0),
   (⟨"PutBackModel", "costOf", "(III)I"⟩, prog_12_method_41_code, 7, (Option.some Jvm.ClassFile.FieldType.int), 0)],
  [(⟨"PutBackModel", "isLeft", "(I)Z"⟩, prog_12_method_42_code, 4, (Option.some Jvm.ClassFile.FieldType.boolean), 0),
   (⟨"PutBackModel", "madeOf", "(II)I"⟩, prog_12_method_43_code, 8, (Option.some Jvm.ClassFile.FieldType.int), 0),
   (⟨"PutBackModel", "makesOf", "(II)I"⟩, prog_12_method_44_code, 3, (Option.some Jvm.ClassFile.FieldType.int), 0),
   (⟨"PutBackModel", "types", "(II)I"⟩, prog_12_method_45_code, 5, (Option.some Jvm.ClassFile.FieldType.int), 0),
   (⟨"PutBackModel", "type", "(II)I"⟩, prog_12_method_46_code, 4, (Option.some Jvm.ClassFile.FieldType.int), 0),
   (⟨"PutBackModel", "back", "()I"⟩, prog_12_method_47_code, 3, (Option.some Jvm.ClassFile.FieldType.int), 0),
   (⟨"PutBackModel", "send", "()I"⟩, prog_12_method_48_code, 2, (Option.some Jvm.ClassFile.FieldType.int), 0),
   (⟨"PutBackModel", "told", "(I)I"⟩, prog_12_method_49_code, 2, (Option.some Jvm.ClassFile.FieldType.int), 0),
   (⟨"PutBackModel", "makes", "(II)I"⟩, prog_12_method_50_code, 3, (Option.some Jvm.ClassFile.FieldType.int), 0),
   (⟨"PutBackModel", "cost", "(IIII)I"⟩, prog_12_method_51_code, 6, (Option.some Jvm.ClassFile.FieldType.int), 0),
   (⟨"PutBackModel", "staysOf", "(I)I"⟩, prog_12_method_52_code, 4, (Option.some Jvm.ClassFile.FieldType.int), 0),
   (⟨"PutBackModel", "stays", "(I)I"⟩, prog_12_method_53_code, 2, (Option.some Jvm.ClassFile.FieldType.int), 0),
   (⟨"PutBackModel", "looksForShort", "(I)V"⟩, prog_12_method_54_code, 4, (Option.none : Option Jvm.ClassFile.FieldType), 0),
   (⟨"PutBackModel", "looksForTouches", "(II)V"⟩, prog_12_method_55_code, 4, (Option.none : Option Jvm.ClassFile.FieldType), 0),
   (⟨"PutBackModel", "touches", "(III)I"⟩, prog_12_method_56_code, 4, (Option.some Jvm.ClassFile.FieldType.int), 0),
   (⟨"PutBackModel", "never", "(I)I"⟩, prog_12_method_57_code, 5, (Option.some Jvm.ClassFile.FieldType.int), 0)],
  [(⟨"PutBackModel", "round", "(III)I"⟩, prog_12_method_58_code, 6, (Option.some Jvm.ClassFile.FieldType.int), 0),
   (⟨"PutBackModel", "stands", "(II)I"⟩, prog_12_method_59_code, 5, (Option.some Jvm.ClassFile.FieldType.int), 0),
   (⟨"PutBackModel", "begins", "(II)Z"⟩, prog_12_method_60_code, 4, (Option.some Jvm.ClassFile.FieldType.boolean), 0),
   (⟨"PutBackModel", "aheadOf", "(II)I"⟩, prog_12_method_61_code, 5, (Option.some Jvm.ClassFile.FieldType.int), 0),
   (⟨"PutBackModel", "guess", "(II)I"⟩, prog_12_method_62_code, 4, (Option.some Jvm.ClassFile.FieldType.int), 0),
   (⟨"PutBackModel", "letter", "(I)I"⟩, prog_12_method_63_code, 3, (Option.some Jvm.ClassFile.FieldType.int), 0),
   (⟨"PutBackModel", "enough", "(II)I"⟩, prog_12_method_64_code, 6, (Option.some Jvm.ClassFile.FieldType.int), 0),
   (⟨"PutBackModel", "slipsFrom", "(III)V"⟩, prog_12_method_65_code, 7, (Option.none : Option Jvm.ClassFile.FieldType), 0),
   (⟨"PutBackModel", "lowest", "(JJI)J"⟩, prog_12_method_66_code, 11, (Option.some Jvm.ClassFile.FieldType.long), 0),
   (⟨"PutBackModel", "slips", "(III)J"⟩, prog_12_method_67_code, 4, (Option.some Jvm.ClassFile.FieldType.long), 0),
   (⟨"PutBackModel", "count1", "(I)I"⟩, prog_12_method_68_code, 3, (Option.some Jvm.ClassFile.FieldType.int), 0),
   (⟨"PutBackModel", "wrong", "(II)J"⟩, prog_12_method_69_code, 3, (Option.some Jvm.ClassFile.FieldType.long), 0),
   (⟨"PutBackModel", "unlike", "()I"⟩, prog_12_method_70_code, 5, (Option.some Jvm.ClassFile.FieldType.int), 0),
   (⟨"PutBackModel", "goesRound", "(I)Z"⟩, prog_12_method_71_code, 5, (Option.some Jvm.ClassFile.FieldType.boolean), 0),
   (⟨"PutBackModel", "chain", "(III)I"⟩, prog_12_method_72_code, 6, (Option.some Jvm.ClassFile.FieldType.int), 0),
   (⟨"PutBackModel", "waysOf", "(III)I"⟩, prog_12_method_73_code, 4, (Option.some Jvm.ClassFile.FieldType.int), 0)],
  [(⟨"PutBackModel", "meant", "(II)I"⟩, prog_12_method_74_code, 5, (Option.some Jvm.ClassFile.FieldType.int), 0),
   (⟨"PutBackModel", "likeliest", "(II)I"⟩, prog_12_method_75_code, 7, (Option.some Jvm.ClassFile.FieldType.int), 0),
   (⟨"PutBackModel", "who", "(II)I"⟩, prog_12_method_76_code, 5, (Option.some Jvm.ClassFile.FieldType.int), 0),
   (⟨"PutBackModel", "twins", "()I"⟩, prog_12_method_77_code, 6, (Option.some Jvm.ClassFile.FieldType.int), 0),
   (⟨"PutBackModel", "room", "(I)I"⟩, prog_12_method_78_code, 4, (Option.some Jvm.ClassFile.FieldType.int), 0),
   (⟨"PutBackModel", "saved", "(I)I"⟩, prog_12_method_79_code, 5, (Option.some Jvm.ClassFile.FieldType.int), 0),
   (⟨"PutBackModel", "book", "(III)I"⟩, prog_12_method_80_code, 4, (Option.some Jvm.ClassFile.FieldType.int), 0),
   (⟨"PutBackModel", "looked", "()I"⟩, prog_12_method_81_code, 2, (Option.some Jvm.ClassFile.FieldType.int), 0),
   (⟨"PutBackModel", "ranBody", "(I)V"⟩, prog_12_method_82_code, 2, (Option.none : Option Jvm.ClassFile.FieldType), 0),
   (⟨"PutBackModel", "isUnder", "(II)Z"⟩, prog_12_method_83_code, 2, (Option.some Jvm.ClassFile.FieldType.boolean), 0),
   (⟨"PutBackModel", "plainMends", "(I)I"⟩, prog_12_method_84_code, 2, (Option.some Jvm.ClassFile.FieldType.int), 0),
   (⟨"PutBackModel", "mendsActs", "(I)I"⟩, prog_12_method_85_code, 2, (Option.some Jvm.ClassFile.FieldType.int), 0),
   (⟨"PutBackModel", "plainLeaves", "(I)I"⟩, prog_12_method_86_code, 2, (Option.some Jvm.ClassFile.FieldType.int), 0),
   (⟨"PutBackModel", "leavesActs", "(I)I"⟩, prog_12_method_87_code, 2, (Option.some Jvm.ClassFile.FieldType.int), 0),
   (⟨"PutBackModel", "plainTells", "(I)I"⟩, prog_12_method_88_code, 2, (Option.some Jvm.ClassFile.FieldType.int), 0),
   (⟨"PutBackModel", "tellsActs", "(I)I"⟩, prog_12_method_89_code, 3, (Option.some Jvm.ClassFile.FieldType.int), 0)],
  [(⟨"PutBackModel", "act", "(III)I"⟩, prog_12_method_90_code, 4, (Option.some Jvm.ClassFile.FieldType.int), 0),
   (⟨"PutBackModel", "trace", "(I)I"⟩, prog_12_method_91_code, 2, (Option.some Jvm.ClassFile.FieldType.int), 0),
   (⟨"PutBackModel", "as", "(II)I"⟩, prog_12_method_92_code, 3, (Option.some Jvm.ClassFile.FieldType.int), 0),
   (⟨"PutBackModel", "image", "()I"⟩, prog_12_method_93_code, 2, (Option.some Jvm.ClassFile.FieldType.int), 0),
   (⟨"PutBackModel", "undo", "()I"⟩, prog_12_method_94_code, 2, (Option.some Jvm.ClassFile.FieldType.int), 0),
   (⟨"PutBackModel", "count", "(I)I"⟩, prog_12_method_95_code, 2, (Option.some Jvm.ClassFile.FieldType.int), 0)]]
def xq_stx : List String := ["limit", "step", "dear", "free", "limit ", "step ", "dear ", "free ", "twdkis", "<=>"]
/-! WHAT IS LOOKED UP ONCE: each row is the bytecode's, its words are the tables' -/
def xq_rp (rows : List (List xq_Row)) (n : Nat) : Nat := match xq_at rows n with
  | some (_, (pc, _, _), _, _) => pc
  | none => 0
def xq_el : Instr → Nat
  | .iload _ | .lload _ | .aload _ | .istore _ | .astore _ | .lstore _ | .bipush _ | .ldc _ | .newarray _ => 2
  | .sipush _ | .ldc_w _ | .ldc2_w _ | .iinc _ _ | .getfield _ | .putfield _ | .getstatic _ | .new _ | .goto _ | .ifCond _ _ | .if_icmp _ _ | .invokevirtual _ | .invokestatic _ | .invokespecial _ => 3
  | _ => 1
def xq_tm : Instr → Bool
  | .goto _ | .ireturn | .lreturn | .areturn | .return_ | .tableswitch _ _ _ _ | .lookupswitch _ _ => true
  | _ => false
def xq_ts : Instr → Bool
  | .tableswitch _ _ _ _ | .lookupswitch _ _ => true
  | _ => false
/-- the words that stay as they are -/
def lw_gd : List Jvm.Cond := lw_tbl.filter goodWord
def xq_wd (i : Nat) (c : Jvm.Cond) : Bool := decide (lw_tbl[i]? = some c) && goodWord c
def xq_isN : Jvm.Cond → Bool
  | .fieldLinkNest _ _ _ _ _ _ => true
  | .methodLinkNest _ _ _ _ => true
  | _ => false
/-- the words of nest mates -/
def lw_ns : List Jvm.Cond := lw_tbl.filter xq_isN
def xq_wn (i : Nat) (c : Jvm.Cond) : Bool := decide (lw_tbl[i]? = some c) && xq_isN c
def xq_sg (y : Nat) : xq_Sg := (xq_sgl.getD (y / 16) []).getD (y % 16) (⟨"", "", ""⟩, ⟨#[]⟩, 0, none, 0)
/-- the words of a call -/
def xq_okc (own : String) (idx : Nat) (inst : Bool) : List Nat → Bool
  | [y, n, bc, rci, kind, wi, w2, w3, w4, w5] =>
    (match xq_sg y with
      | (nm, bytes, ml, ret, bc') => Nat.beq bc bc' && Nat.ble ml 45 && decide (nm.cls ≠ "java/lang/invoke/MethodHandle" ∧ nm.cls ≠ "java/lang/invoke/VarHandle" ∧ (parseMethodDescriptor nm.desc).map (fun d => d.parameters.length) = some n) && xq_wd w4 (.code nm bytes ml ret) && xq_wd w5 (.initialized nm.cls) && xq_wd w2 (if inst then .instanceMethod nm else .static nm) &&
        (match kind with
        | 0 => xq_wd wi (.methodLink own idx nm) && xq_wd w3 (.selects nm.cls nm nm) && (match rci with | 99 => decide (nm.cls = "java/lang/String") | _ => decide ((xq_cl[rci]?).map (fun q => q.1) = some nm.cls))
        | 1 => xq_wd wi (.methodLink own idx nm)
        | 2 => xq_wn wi (.methodLinkNest own idx nm "PutBack")
        | 3 => xq_wn wi (.methodLinkNest own idx nm "PutBack") && decide (nm.name = "<init>" ∧ ret = none)
        | 4 => xq_wd wi (.methodLink own idx nm) && decide (nm.name = "<init>" ∧ ret = none)
        | _ => false))
  | _ => false
def xq_sof : List (String × Nat × String) := [("PutBack$Reader", 83, "limit"), ("PutBack$Reader", 84, "step"), ("PutBack$Reader", 85, "dear"), ("PutBack$Reader", 87, "free"), ("PutBack$Reader", 98, "twdkis"), ("PutBack$Reader", 104, "<=>"), ("PutBackModel", 131, "limit "), ("PutBackModel", 137, "step "), ("PutBackModel", 139, "dear "), ("PutBackModel", 113, "twdkis"), ("PutBackModel", 119, "<=>"), ("PutBackModel", 144, "free ")]
def xq_okf (own : String) (idx kind ci k wi : Nat) : Bool := match xq_cl[ci]? with
  | some (_, T, N) => Nat.blt k N && Nat.beq (xq_fk ci k) kind && xq_wd wi (.fieldLink own idx (T k).1 (T k).2.1 (T k).2.2.1)
  | none => false
def xq_okg (own : String) (idx kind ci k wi : Nat) : Bool := match kind with
  | 4 => xq_wd wi (.fieldLink own idx "java/lang/String" "coder" "B")
  | 5 => xq_wd wi (.fieldLink own idx "java/lang/String" "value" "[B")
  | _ => xq_okf own idx kind ci k wi
def xq_okq (own : String) (ini : Bool) (q : vw_C) (k fin : Nat) : Bool := match fin with
  | 0 => decide ((q.2.1 k).2.2.2 = false)
  | 1 => decide ((q.2.1 k).2.2.2 = true ∧ (q.2.1 k).1 = own) && ini
  | _ => false
def xq_okp (own : String) (idx : Nat) (ini : Bool) (kind ci k wi fin : Nat) : Bool := xq_okf own idx kind ci k wi && (match xq_cl[ci]? with
  | some q => xq_okq own ini q k fin
  | none => false)
def xq_oks (own : String) (idx k0 o wi nest : Nat) : Bool := match k0, o, nest with
  | 0, 1001, 0 => xq_wd wi (.fieldLink own idx "PutBack" "ABOVE" "[I")
  | 0, 1001, 1 => xq_wn wi (.fieldLinkNest own idx "PutBack" "ABOVE" "[I" "PutBack")
  | 0, 1002, 0 => xq_wd wi (.fieldLink own idx "PutBack" "BODIES" "[I")
  | 0, 1002, 1 => xq_wn wi (.fieldLinkNest own idx "PutBack" "BODIES" "[I" "PutBack")
  | 0, 1003, 0 => xq_wd wi (.fieldLink own idx "jdk/internal/util/Preconditions" "SIOOBE_FORMATTER" "Ljava/util/function/BiFunction;")
  | 1, _, 0 => xq_wd wi (.fieldLink own idx "java/lang/String" "COMPACT_STRINGS" "Z")
  | _, _, _ => false
def xq_okb (cc : ByteArray) (own : String) (ini : Bool) (rt : Option FieldType) (rp : Nat → Nat) : xq_Row → Bool
  | (.nop, _, _, _) => true
  | (ins, (pc, len, nxt), ax, vs) => decide (decode cc pc = .ok (ins, len)) && (xq_ts ins || Nat.beq len (xq_el ins)) && (xq_tm ins || Nat.beq (rp nxt) (pc + len)) && (match ins with
    | .bipush n => decide ((Int8.ofInt n).toInt32 = Int32.ofInt n ∧ -2147483648 ≤ n ∧ n ≤ 2147483647)
    | .sipush n => decide ((Int16.ofInt n).toInt32 = Int32.ofInt n ∧ -2147483648 ≤ n ∧ n ≤ 2147483647)
    | .iconst n => decide (-2147483648 ≤ n ∧ n ≤ 2147483647)
    | .iinc _ n => decide (-2147483648 ≤ n ∧ n ≤ 2147483647)
    | .lconst n => decide (vs = [(n.val : Int)])
    | .ldc idx => (match ax, vs with
      | [0, wi], [v] => xq_wd wi (.constant own idx (Int32.ofInt v)) && decide (-2147483648 ≤ v ∧ v ≤ 2147483647)
      | [1, i, j], [] => decide ((xq_sof[j]?).map (fun q => (q.1, q.2.1)) = some (own, idx) ∧ (xq_sof[j]?).map (fun q => q.2.2) = xq_stx[i]? ∧ i < 10)
      | _, _ => false)
    | .ldc_w idx => (match ax, vs with
      | [0, wi], [v] => xq_wd wi (.constant own idx (Int32.ofInt v)) && decide (-2147483648 ≤ v ∧ v ≤ 2147483647)
      | _, _ => false)
    | .ldc2_w idx => (match ax, vs with
      | [wi], [v] => xq_wd wi (.constantLong own idx (Int64.ofInt v)) && decide (-9223372036854775808 ≤ v ∧ v ≤ 9223372036854775807)
      | _, _ => false)
    | .getfield idx => (match ax, vs with
      | [kind, ci, k, wi], [kI] => decide (kI = (k : Int)) && xq_okg own idx kind ci k wi
      | _, _ => false)
    | .putfield idx => (match ax, vs with
      | [kind, ci, k, wi, fin], [kI] => decide (kI = (k : Int)) && xq_okp own idx ini kind ci k wi fin
      | _, _ => false)
    | .getstatic idx => (match ax with
      | [k0, o, wi, nest] => xq_oks own idx k0 o wi nest
      | _ => false)
    | .newarray t => (match ax with
      | [0] => decide (t = .int)
      | [1] => decide (t = .boolean)
      | _ => false)
    | .new idx => (match ax with
      | [ci, w1, w2, w3] => (match xq_cl[ci]? with
        | some (C, _, N) => xq_wd w1 (.classLink own idx C) && xq_wd w2 (.instantiable C N) && xq_wd w3 (.initialized C)
        | none => false)
      | _ => false)
    | .goto off => (match ax with | [t] => decide ((pc : Int) + off = (rp t : Int)) | _ => false)
    | .ifCond _ off => (match ax with | [t] => decide ((pc : Int) + off = (rp t : Int)) | _ => false)
    | .if_icmp _ off => (match ax with | [t] => decide ((pc : Int) + off = (rp t : Int)) | _ => false)
    | .tableswitch dflt lo hi offs => (match ax with
      | d :: ts => decide ((pc : Int) + dflt = (rp d : Int) ∧ ts.map (fun t => (rp t : Int)) = offs.toList.map (fun o => (pc : Int) + o) ∧ vs = (List.range offs.size).map (fun j : Nat => lo + (j : Int)) ∧ (offs.size : Int) = hi - lo + 1)
      | _ => false)
    | .lookupswitch dflt ps => (match ax with
      | d :: ts => decide ((pc : Int) + dflt = (rp d : Int) ∧ ts.map (fun t => (rp t : Int)) = ps.toList.map (fun q => (pc : Int) + q.2) ∧ vs = ps.toList.map (fun q => q.1) ∧ (ps.toList.zip (ps.toList.drop 1)).all (fun (a, next) => a.1 < next.1) = true)
      | _ => false)
    | .invokevirtual idx => xq_okc own idx true ax && (match ax with | [_, _, _, _, 0, _, _, _, _, _] => true | _ => false)
    | .invokestatic idx => xq_okc own idx false ax && (match ax with | [_, _, _, _, 1, _, _, _, _, _] => true | [_, _, _, _, 2, _, _, _, _, _] => true | _ => false)
    | .invokespecial idx => (match ax with
      | [wi] => xq_wd wi (.methodLink own idx objectInit)
      | [_, _, _, _, 3, _, _, _, _, _] => xq_okc own idx true ax
      | [_, _, _, _, 4, _, _, _, _, _] => xq_okc own idx true ax
      | _ => false)
    | .ireturn => (match ax with
      | [0] => decide (rt = some .int)
      | [1] => decide (rt = some .boolean)
      | [2] => decide (rt = some .char)
      | [3] => decide (rt = some .byte)
      | _ => false)
    | .lreturn => decide (rt = some .long)
    | .areturn => (match rt with | some (.object _) => true | some (.array _) => true | _ => false)
    | .return_ => decide (rt = none)
    | _ => true)
def xq_okM (cc : ByteArray) (own : String) (ini : Bool) (rt : Option FieldType) (rows : List (List xq_Row)) : Bool := rows.all (fun ch => ch.all (xq_okb cc own ini rt (xq_rp rows)))
end
section
def rw_JM_min : List (List xq_Row) := [
  [(.iload_n 0, (0, 1, 1), [], []),
   (.iload_n 1, (1, 1, 2), [], []),
   (.if_icmp .gt 7, (2, 3, 3), [5], []),
   (.iload_n 0, (5, 1, 4), [], []),
   (.goto 4, (6, 3, 5), [6], []),
   (.iload_n 1, (9, 1, 6), [], []),
   (.ireturn, (10, 1, 7), [0], [])]]
def rw_JM_max : List (List xq_Row) := [
  [(.iload_n 0, (0, 1, 1), [], []),
   (.iload_n 1, (1, 1, 2), [], []),
   (.if_icmp .lt 7, (2, 3, 3), [5], []),
   (.iload_n 0, (5, 1, 4), [], []),
   (.goto 4, (6, 3, 5), [6], []),
   (.iload_n 1, (9, 1, 6), [], []),
   (.ireturn, (10, 1, 7), [0], [])]]
def rw_JM_floorMod : List (List xq_Row) := [
  [(.iload_n 0, (0, 1, 1), [], []),
   (.iload_n 1, (1, 1, 2), [], []),
   (.irem, (2, 1, 3), [], []),
   (.istore_n 2, (3, 1, 4), [], []),
   (.iload_n 0, (4, 1, 5), [], []),
   (.iload_n 1, (5, 1, 6), [], []),
   (.ixor, (6, 1, 7), [], []),
   (.ifCond .ge 11, (7, 3, 8), [14], []),
   (.iload_n 2, (10, 1, 9), [], []),
   (.ifCond .eq 7, (11, 3, 10), [14], []),
   (.iload_n 2, (14, 1, 11), [], []),
   (.iload_n 1, (15, 1, 12), [], []),
   (.iadd, (16, 1, 13), [0], []),
   (.ireturn, (17, 1, 14), [0], []),
   (.iload_n 2, (18, 1, 15), [], []),
   (.ireturn, (19, 1, 16), [0], [])]]
def rw_JI_bitCount : List (List xq_Row) := [
  [(.iload_n 0, (0, 1, 1), [], []),
   (.iload_n 0, (1, 1, 2), [], []),
   (.iconst 1, (2, 1, 3), [], []),
   (.iushr, (3, 1, 4), [], []),
   (.ldc_w 265, (4, 3, 5), [0, 845], [1431655765]),
   (.iand, (7, 1, 6), [], []),
   (.isub, (8, 1, 7), [1], []),
   (.istore_n 0, (9, 1, 8), [], []),
   (.iload_n 0, (10, 1, 9), [], []),
   (.ldc_w 266, (11, 3, 10), [0, 846], [858993459]),
   (.iand, (14, 1, 11), [], []),
   (.iload_n 0, (15, 1, 12), [], []),
   (.iconst 2, (16, 1, 13), [], []),
   (.iushr, (17, 1, 14), [], []),
   (.ldc_w 266, (18, 3, 15), [0, 846], [858993459]),
   (.iand, (21, 1, 16), [], [])],
  [(.iadd, (22, 1, 17), [1], []),
   (.istore_n 0, (23, 1, 18), [], []),
   (.iload_n 0, (24, 1, 19), [], []),
   (.iload_n 0, (25, 1, 20), [], []),
   (.iconst 4, (26, 1, 21), [], []),
   (.iushr, (27, 1, 22), [], []),
   (.iadd, (28, 1, 23), [1], []),
   (.ldc_w 267, (29, 3, 24), [0, 847], [252645135]),
   (.iand, (32, 1, 25), [], []),
   (.istore_n 0, (33, 1, 26), [], []),
   (.iload_n 0, (34, 1, 27), [], []),
   (.iload_n 0, (35, 1, 28), [], []),
   (.bipush 8, (36, 2, 29), [], []),
   (.iushr, (38, 1, 30), [], []),
   (.iadd, (39, 1, 31), [1], []),
   (.istore_n 0, (40, 1, 32), [], [])],
  [(.iload_n 0, (41, 1, 33), [], []),
   (.iload_n 0, (42, 1, 34), [], []),
   (.bipush 16, (43, 2, 35), [], []),
   (.iushr, (45, 1, 36), [], []),
   (.iadd, (46, 1, 37), [1], []),
   (.istore_n 0, (47, 1, 38), [], []),
   (.iload_n 0, (48, 1, 39), [], []),
   (.bipush 63, (49, 2, 40), [], []),
   (.iand, (51, 1, 41), [], []),
   (.ireturn, (52, 1, 42), [0], [])]]
def rw_JS_length : List (List xq_Row) := [
  [(.aload_n 0, (0, 1, 1), [], []),
   (.getfield 9, (1, 3, 2), [5, 0, 0, 1454], [0]),
   (.arraylength, (4, 1, 3), [], []),
   (.aload_n 0, (5, 1, 4), [], []),
   (.invokevirtual 335, (6, 3, 5), [5, 0, 0, 99, 0, 440, 441, 442, 443, 81], []),
   (.ishr, (9, 1, 6), [], []),
   (.ireturn, (10, 1, 7), [0], [])]]
def rw_JS_coder : List (List xq_Row) := [
  [(.getstatic 38, (0, 3, 1), [1, 0, 444, 0], []),
   (.ifCond .eq 10, (3, 3, 2), [5], []),
   (.aload_n 0, (6, 1, 3), [], []),
   (.getfield 15, (7, 3, 4), [4, 0, 0, 1455], [0]),
   (.goto 4, (10, 3, 5), [6], []),
   (.iconst 1, (13, 1, 6), [], []),
   (.ireturn, (14, 1, 7), [3], [])]]
def rw_JS_isLatin1 : List (List xq_Row) := [
  [(.getstatic 38, (0, 3, 1), [1, 0, 444, 0], []),
   (.ifCond .eq 14, (3, 3, 2), [7], []),
   (.aload_n 0, (6, 1, 3), [], []),
   (.getfield 15, (7, 3, 4), [4, 0, 0, 1455], [0]),
   (.ifCond .ne 7, (10, 3, 5), [7], []),
   (.iconst 1, (13, 1, 6), [], []),
   (.goto 4, (14, 3, 7), [8], []),
   (.iconst 0, (17, 1, 8), [], []),
   (.ireturn, (18, 1, 9), [1], [])]]
def rw_JS_charAt : List (List xq_Row) := [
  [(.aload_n 0, (0, 1, 1), [], []),
   (.invokevirtual 492, (1, 3, 2), [6, 0, 0, 99, 0, 450, 451, 452, 453, 81], []),
   (.ifCond .eq 12, (4, 3, 3), [8], []),
   (.aload_n 0, (7, 1, 4), [], []),
   (.getfield 9, (8, 3, 5), [5, 0, 0, 1454], [0]),
   (.iload_n 1, (11, 1, 6), [], []),
   (.invokestatic 495, (12, 3, 7), [11, 2, 0, 0, 1, 454, 455, 0, 456, 82], []),
   (.ireturn, (15, 1, 8), [2], []),
   (.aload_n 0, (16, 1, 9), [], []),
   (.getfield 9, (17, 3, 10), [5, 0, 0, 1454], [0]),
   (.iload_n 1, (20, 1, 11), [], []),
   (.nop, (21, 3, 12), [9, 9, 9, 9, 9, 9, 9, 9], [9, 9, 9]),
   (.ireturn, (24, 1, 13), [2], [])]]
def rw_JS_checkIndex : List (List xq_Row) := [
  [(.iload_n 0, (0, 1, 1), [], []),
   (.iload_n 1, (1, 1, 2), [], []),
   (.getstatic 1053, (2, 3, 3), [0, 1003, 460, 0], []),
   (.invokestatic 1059, (5, 3, 4), [15, 3, 0, 0, 1, 462, 463, 0, 464, 83], []),
   (.pop, (8, 1, 5), [], []),
   (.return_, (9, 1, 6), [], [])]]
def rw_JS_indexOf : List (List xq_Row) := [
  [(.aload_n 0, (0, 1, 1), [], []),
   (.iload_n 1, (1, 1, 2), [], []),
   (.iconst 0, (2, 1, 3), [], []),
   (.invokevirtual 633, (3, 3, 4), [10, 2, 0, 99, 0, 513, 514, 515, 516, 81], []),
   (.ireturn, (6, 1, 5), [0], [])]]
def rw_JS_indexOf2 : List (List xq_Row) := [
  [(.aload_n 0, (0, 1, 1), [], []),
   (.invokevirtual 492, (1, 3, 2), [6, 0, 0, 99, 0, 450, 451, 452, 453, 81], []),
   (.ifCond .eq 19, (4, 3, 3), [11], []),
   (.aload_n 0, (7, 1, 4), [], []),
   (.getfield 9, (8, 3, 5), [5, 0, 0, 1454], [0]),
   (.iload_n 1, (11, 1, 6), [], []),
   (.iload_n 2, (12, 1, 7), [], []),
   (.aload_n 0, (13, 1, 8), [], []),
   (.invokevirtual 505, (14, 3, 9), [4, 0, 0, 99, 0, 517, 437, 438, 439, 81], []),
   (.invokestatic 637, (17, 3, 10), [13, 4, 0, 0, 1, 518, 519, 0, 520, 82], []),
   (.goto 16, (20, 3, 11), [18], []),
   (.aload_n 0, (23, 1, 12), [], []),
   (.getfield 9, (24, 3, 13), [5, 0, 0, 1454], [0]),
   (.iload_n 1, (27, 1, 14), [], []),
   (.iload_n 2, (28, 1, 15), [], []),
   (.aload_n 0, (29, 1, 16), [], [])],
  [(.invokevirtual 505, (30, 3, 17), [4, 0, 0, 99, 0, 517, 437, 438, 439, 81], []),
   (.nop, (33, 3, 18), [9, 9, 9, 9, 9, 9, 9, 9], [9, 9, 9]),
   (.ireturn, (36, 1, 19), [0], [])]]
def rw_JL_charAt : List (List xq_Row) := [
  [(.iload_n 1, (0, 1, 1), [], []),
   (.aload_n 0, (1, 1, 2), [], []),
   (.arraylength, (2, 1, 3), [], []),
   (.invokestatic 9, (3, 3, 4), [8, 2, 0, 0, 1, 457, 458, 0, 459, 81], []),
   (.aload_n 0, (6, 1, 5), [], []),
   (.iload_n 1, (7, 1, 6), [], []),
   (.baload, (8, 1, 7), [], []),
   (.sipush 255, (9, 3, 8), [], []),
   (.iand, (12, 1, 9), [], []),
   (.i2c, (13, 1, 10), [], []),
   (.ireturn, (14, 1, 11), [2], [])]]
def rw_JL_canEncode : List (List xq_Row) := [
  [(.iload_n 0, (0, 1, 1), [], []),
   (.ifCond .lt 14, (1, 3, 2), [7], []),
   (.iload_n 0, (4, 1, 3), [], []),
   (.sipush 255, (5, 3, 4), [], []),
   (.if_icmp .gt 7, (8, 3, 5), [7], []),
   (.iconst 1, (11, 1, 6), [], []),
   (.goto 4, (12, 3, 7), [8], []),
   (.iconst 0, (15, 1, 8), [], []),
   (.ireturn, (16, 1, 9), [1], [])]]
def rw_JL_indexOf : List (List xq_Row) := [
  [(.iload_n 1, (0, 1, 1), [], []),
   (.invokestatic 88, (1, 3, 2), [12, 1, 0, 0, 1, 521, 522, 0, 523, 82], []),
   (.ifCond .ne 5, (4, 3, 3), [5], []),
   (.iconst (-1), (7, 1, 4), [], []),
   (.ireturn, (8, 1, 5), [0], []),
   (.iload_n 2, (9, 1, 6), [], []),
   (.iconst 0, (10, 1, 7), [], []),
   (.invokestatic 92, (11, 3, 8), [1, 2, 0, 0, 1, 524, 525, 0, 526, 80], []),
   (.istore_n 2, (14, 1, 9), [], []),
   (.iload_n 3, (15, 1, 10), [], []),
   (.aload_n 0, (16, 1, 11), [], []),
   (.arraylength, (17, 1, 12), [], []),
   (.invokestatic 38, (18, 3, 13), [0, 2, 0, 0, 1, 527, 411, 0, 412, 80], []),
   (.istore_n 3, (21, 1, 14), [], []),
   (.iload_n 2, (22, 1, 15), [], []),
   (.iload_n 3, (23, 1, 16), [], [])],
  [(.if_icmp .lt 5, (24, 3, 17), [19], []),
   (.iconst (-1), (27, 1, 18), [], []),
   (.ireturn, (28, 1, 19), [0], []),
   (.aload_n 0, (29, 1, 20), [], []),
   (.iload_n 1, (30, 1, 21), [], []),
   (.iload_n 2, (31, 1, 22), [], []),
   (.iload_n 3, (32, 1, 23), [], []),
   (.invokestatic 95, (33, 3, 24), [14, 4, 0, 0, 1, 528, 529, 0, 530, 82], []),
   (.ireturn, (36, 1, 25), [0], [])]]
def rw_JL_indexOfChar : List (List xq_Row) := [
  [(.iload_n 1, (0, 1, 1), [], []),
   (.i2b, (1, 1, 2), [], []),
   (.istore 4, (2, 2, 3), [], []),
   (.iload_n 2, (4, 1, 4), [], []),
   (.istore 5, (5, 2, 5), [], []),
   (.iload 5, (7, 2, 6), [], []),
   (.iload_n 3, (9, 1, 7), [], []),
   (.if_icmp .ge 21, (10, 3, 8), [17], []),
   (.aload_n 0, (13, 1, 9), [], []),
   (.iload 5, (14, 2, 10), [], []),
   (.baload, (16, 1, 11), [], []),
   (.iload 4, (17, 2, 12), [], []),
   (.if_icmp .ne 6, (19, 3, 13), [15], []),
   (.iload 5, (22, 2, 14), [], []),
   (.ireturn, (24, 1, 15), [0], []),
   (.iinc 5 1, (25, 3, 16), [], [])],
  [(.goto (-21), (28, 3, 17), [5], []),
   (.iconst (-1), (31, 1, 18), [], []),
   (.ireturn, (32, 1, 19), [0], [])]]
def rw_JP_checkIndex : List (List xq_Row) := [
  [(.iload_n 0, (0, 1, 1), [], []),
   (.ifCond .lt 8, (1, 3, 2), [5], []),
   (.iload_n 0, (4, 1, 3), [], []),
   (.iload_n 1, (5, 1, 4), [], []),
   (.if_icmp .lt 10, (6, 3, 5), [10], []),
   (.aload_n 2, (9, 1, 6), [], []),
   (.iload_n 0, (10, 1, 7), [], []),
   (.iload_n 1, (11, 1, 8), [], []),
   (.nop, (12, 3, 9), [9, 9, 9, 9, 9, 9, 9, 9], [9, 9, 9]),
   (.nop, (15, 1, 10), [9, 9, 9, 9, 9, 9, 9, 9], [9, 9, 9]),
   (.iload_n 0, (16, 1, 11), [], []),
   (.ireturn, (17, 1, 12), [0], [])]]
def rw_A_init : List (List xq_Row) := [
  [(.aload_n 0, (0, 1, 1), [], []),
   (.invokespecial 3, (1, 3, 2), [354], []),
   (.aload_n 0, (4, 1, 3), [], []),
   (.bipush 20, (5, 2, 4), [], []),
   (.newarray .int, (7, 2, 5), [0], []),
   (.putfield 9, (9, 3, 6), [2, 0, 0, 355, 1], [0]),
   (.aload_n 0, (12, 1, 7), [], []),
   (.iconst 0, (13, 1, 8), [], []),
   (.putfield 15, (14, 3, 9), [0, 0, 1, 357, 0], [1]),
   (.aload_n 0, (17, 1, 10), [], []),
   (.iconst 0, (18, 1, 11), [], []),
   (.putfield 19, (19, 3, 12), [0, 0, 2, 359, 0], [2]),
   (.aload_n 0, (22, 1, 13), [], []),
   (.iconst 0, (23, 1, 14), [], []),
   (.putfield 22, (24, 3, 15), [0, 0, 3, 360, 0], [3]),
   (.aload_n 0, (27, 1, 16), [], [])],
  [(.iconst 0, (28, 1, 17), [], []),
   (.putfield 25, (29, 3, 18), [0, 0, 4, 361, 0], [4]),
   (.return_, (32, 1, 19), [], [])]]
def rw_A_forget : List (List xq_Row) := [
  [(.aload_n 0, (0, 1, 1), [], []),
   (.iconst 0, (1, 1, 2), [], []),
   (.putfield 15, (2, 3, 3), [0, 0, 1, 357, 0], [1]),
   (.return_, (5, 1, 4), [], [])]]
def rw_A_start : List (List xq_Row) := [
  [(.aload_n 0, (0, 1, 1), [], []),
   (.iload_n 1, (1, 1, 2), [], []),
   (.putfield 19, (2, 3, 3), [0, 0, 2, 359, 0], [2]),
   (.aload_n 0, (5, 1, 4), [], []),
   (.iload_n 2, (6, 1, 5), [], []),
   (.putfield 22, (7, 3, 6), [0, 0, 3, 360, 0], [3]),
   (.aload_n 0, (10, 1, 7), [], []),
   (.iload_n 3, (11, 1, 8), [], []),
   (.putfield 25, (12, 3, 9), [0, 0, 4, 361, 0], [4]),
   (.aload_n 0, (15, 1, 10), [], []),
   (.aload_n 0, (16, 1, 11), [], []),
   (.getfield 22, (17, 3, 12), [0, 0, 3, 360], [3]),
   (.iload 4, (20, 2, 13), [], []),
   (.iload 5, (22, 2, 14), [], []),
   (.iconst 0, (24, 1, 15), [], []),
   (.invokevirtual 28, (25, 3, 16), [19, 4, 0, 0, 0, 916, 918, 23, 919, 78], [])],
  [(.ireturn, (28, 1, 17), [0], [])]]
def rw_A_run : List (List xq_Row) := [
  [(.iload_n 1, (0, 1, 1), [], []),
   (.iload_n 2, (1, 1, 2), [], []),
   (.invokestatic 32, (2, 3, 3), [20, 2, 0, 0, 1, 920, 921, 0, 922, 78], []),
   (.istore 5, (5, 2, 4), [], []),
   (.iload 5, (7, 2, 5), [], []),
   (.ifCond .lt 10, (9, 3, 6), [9], []),
   (.iload 4, (12, 2, 7), [], []),
   (.bipush 20, (14, 2, 8), [], []),
   (.if_icmp .le 5, (16, 3, 9), [11], []),
   (.iconst 0, (19, 1, 10), [], []),
   (.ireturn, (20, 1, 11), [0], []),
   (.getstatic 36, (21, 3, 12), [0, 1001, 925, 1], []),
   (.iload 5, (24, 2, 13), [], []),
   (.iaload, (26, 1, 14), [], []),
   (.istore 6, (27, 2, 15), [], []),
   (.getstatic 39, (29, 3, 16), [0, 1002, 923, 1], [])],
  [(.iload 5, (32, 2, 17), [], []),
   (.iconst 3, (34, 1, 18), [], []),
   (.imul, (35, 1, 19), [1], []),
   (.iload_n 2, (36, 1, 20), [], []),
   (.iadd, (37, 1, 21), [1], []),
   (.iaload, (38, 1, 22), [], []),
   (.istore 7, (39, 2, 23), [], []),
   (.aload_n 0, (41, 1, 24), [], []),
   (.iload 7, (42, 2, 25), [], []),
   (.invokevirtual 42, (44, 3, 26), [21, 1, 0, 0, 0, 927, 929, 24, 930, 78], []),
   (.iload 7, (47, 2, 27), [], []),
   (.lookupswitch 242 #[(1, 83), (2, 90), (3, 110), (11, 127), (21, 142), (31, 156), (41, 172), (51, 206), (61, 224)], (49, 83, 28), [137, 28, 33, 46, 58, 69, 79, 90, 113, 125], [1, 2, 3, 11, 21, 31, 41, 51, 61]),
   (.iload_n 3, (132, 1, 29), [], []),
   (.aload_n 0, (133, 1, 30), [], []),
   (.getfield 19, (134, 3, 31), [0, 0, 2, 359], [2]),
   (.iadd, (137, 1, 32), [1], [])],
  [(.ireturn, (138, 1, 33), [0], []),
   (.aload_n 0, (139, 1, 34), [], []),
   (.aload_n 0, (140, 1, 35), [], []),
   (.getfield 22, (141, 3, 36), [0, 0, 3, 360], [3]),
   (.iconst 0, (144, 1, 37), [], []),
   (.iload_n 3, (145, 1, 38), [], []),
   (.iload 4, (146, 2, 39), [], []),
   (.iconst 1, (148, 1, 40), [], []),
   (.iadd, (149, 1, 41), [1], []),
   (.invokevirtual 28, (150, 3, 42), [19, 4, 0, 0, 0, 916, 918, 23, 919, 78], []),
   (.aload_n 0, (153, 1, 43), [], []),
   (.getfield 25, (154, 3, 44), [0, 0, 4, 361], [4]),
   (.isub, (157, 1, 45), [1], []),
   (.ireturn, (158, 1, 46), [0], []),
   (.aload_n 0, (159, 1, 47), [], []),
   (.aload_n 0, (160, 1, 48), [], [])],
  [(.getfield 22, (161, 3, 49), [0, 0, 3, 360], [3]),
   (.iconst 1, (164, 1, 50), [], []),
   (.iload_n 3, (165, 1, 51), [], []),
   (.iload 4, (166, 2, 52), [], []),
   (.iconst 1, (168, 1, 53), [], []),
   (.iadd, (169, 1, 54), [1], []),
   (.invokevirtual 28, (170, 3, 55), [19, 4, 0, 0, 0, 916, 918, 23, 919, 78], []),
   (.iconst 2, (173, 1, 56), [], []),
   (.imul, (174, 1, 57), [1], []),
   (.ireturn, (175, 1, 58), [0], []),
   (.aload_n 0, (176, 1, 59), [], []),
   (.iload 6, (177, 2, 60), [], []),
   (.iconst 0, (179, 1, 61), [], []),
   (.iload_n 3, (180, 1, 62), [], []),
   (.iconst 3, (181, 1, 63), [], []),
   (.imul, (182, 1, 64), [1], [])],
  [(.iload 4, (183, 2, 65), [], []),
   (.iconst 1, (185, 1, 66), [], []),
   (.iadd, (186, 1, 67), [1], []),
   (.invokevirtual 28, (187, 3, 68), [19, 4, 0, 0, 0, 916, 918, 23, 919, 78], []),
   (.ireturn, (190, 1, 69), [0], []),
   (.aload_n 0, (191, 1, 70), [], []),
   (.iload 6, (192, 2, 71), [], []),
   (.iconst 1, (194, 1, 72), [], []),
   (.iload_n 3, (195, 1, 73), [], []),
   (.iload 4, (196, 2, 74), [], []),
   (.iconst 1, (198, 1, 75), [], []),
   (.iadd, (199, 1, 76), [1], []),
   (.invokevirtual 28, (200, 3, 77), [19, 4, 0, 0, 0, 916, 918, 23, 919, 78], []),
   (.ineg, (203, 1, 78), [1], []),
   (.ireturn, (204, 1, 79), [0], []),
   (.aload_n 0, (205, 1, 80), [], [])],
  [(.iload 6, (206, 2, 81), [], []),
   (.iconst 2, (208, 1, 82), [], []),
   (.iload_n 3, (209, 1, 83), [], []),
   (.iload 4, (210, 2, 84), [], []),
   (.iconst 1, (212, 1, 85), [], []),
   (.iadd, (213, 1, 86), [1], []),
   (.invokevirtual 28, (214, 3, 87), [19, 4, 0, 0, 0, 916, 918, 23, 919, 78], []),
   (.bipush 7, (217, 2, 88), [], []),
   (.ixor, (219, 1, 89), [], []),
   (.ireturn, (220, 1, 90), [0], []),
   (.aload_n 0, (221, 1, 91), [], []),
   (.iload 6, (222, 2, 92), [], []),
   (.iconst 2, (224, 1, 93), [], []),
   (.iload_n 3, (225, 1, 94), [], []),
   (.iconst 1, (226, 1, 95), [], []),
   (.isub, (227, 1, 96), [1], [])],
  [(.iload 4, (228, 2, 97), [], []),
   (.iconst 1, (230, 1, 98), [], []),
   (.iadd, (231, 1, 99), [1], []),
   (.invokevirtual 28, (232, 3, 100), [19, 4, 0, 0, 0, 916, 918, 23, 919, 78], []),
   (.istore 8, (235, 2, 101), [], []),
   (.iload 8, (237, 2, 102), [], []),
   (.aload_n 0, (239, 1, 103), [], []),
   (.aload_n 0, (240, 1, 104), [], []),
   (.getfield 22, (241, 3, 105), [0, 0, 3, 360], [3]),
   (.iconst 0, (244, 1, 106), [], []),
   (.iconst 2, (245, 1, 107), [], []),
   (.iload 4, (246, 2, 108), [], []),
   (.iconst 1, (248, 1, 109), [], []),
   (.iadd, (249, 1, 110), [1], []),
   (.invokevirtual 28, (250, 3, 111), [19, 4, 0, 0, 0, 916, 918, 23, 919, 78], []),
   (.iadd, (253, 1, 112), [1], [])],
  [(.ireturn, (254, 1, 113), [0], []),
   (.aload_n 0, (255, 1, 114), [], []),
   (.iload 6, (256, 2, 115), [], []),
   (.iconst 0, (258, 1, 116), [], []),
   (.iload_n 3, (259, 1, 117), [], []),
   (.iload 4, (260, 2, 118), [], []),
   (.iconst 1, (262, 1, 119), [], []),
   (.iadd, (263, 1, 120), [1], []),
   (.invokevirtual 28, (264, 3, 121), [19, 4, 0, 0, 0, 916, 918, 23, 919, 78], []),
   (.aload_n 0, (267, 1, 122), [], []),
   (.getfield 19, (268, 3, 123), [0, 0, 2, 359], [2]),
   (.ixor, (271, 1, 124), [], []),
   (.ireturn, (272, 1, 125), [0], []),
   (.aload_n 0, (273, 1, 126), [], []),
   (.iload 6, (274, 2, 127), [], []),
   (.iconst 1, (276, 1, 128), [], [])],
  [(.iload_n 3, (277, 1, 129), [], []),
   (.iload 4, (278, 2, 130), [], []),
   (.iconst 1, (280, 1, 131), [], []),
   (.iadd, (281, 1, 132), [1], []),
   (.invokevirtual 28, (282, 3, 133), [19, 4, 0, 0, 0, 916, 918, 23, 919, 78], []),
   (.aload_n 0, (285, 1, 134), [], []),
   (.getfield 25, (286, 3, 135), [0, 0, 4, 361], [4]),
   (.iadd, (289, 1, 136), [1], []),
   (.ireturn, (290, 1, 137), [0], []),
   (.iconst 0, (291, 1, 138), [], []),
   (.ireturn, (292, 1, 139), [0], [])]]
def rw_A_holderOf : List (List xq_Row) := [
  [(.iload_n 0, (0, 1, 1), [], []),
   (.istore_n 2, (1, 1, 2), [], []),
   (.iconst 0, (2, 1, 3), [], []),
   (.istore_n 3, (3, 1, 4), [], []),
   (.iload_n 3, (4, 1, 5), [], []),
   (.bipush 7, (5, 2, 6), [], []),
   (.if_icmp .ge 48, (7, 3, 7), [33], []),
   (.iload_n 2, (10, 1, 8), [], []),
   (.ifCond .lt 44, (11, 3, 9), [33], []),
   (.iload_n 2, (14, 1, 10), [], []),
   (.bipush 7, (15, 2, 11), [], []),
   (.if_icmp .ge 38, (17, 3, 12), [33], []),
   (.iload_n 1, (20, 1, 13), [], []),
   (.ifCond .lt 22, (21, 3, 14), [27], []),
   (.iload_n 1, (24, 1, 15), [], []),
   (.iconst 3, (25, 1, 16), [], [])],
  [(.if_icmp .ge 17, (26, 3, 17), [27], []),
   (.getstatic 39, (29, 3, 18), [0, 1002, 923, 1], []),
   (.iload_n 2, (32, 1, 19), [], []),
   (.iconst 3, (33, 1, 20), [], []),
   (.imul, (34, 1, 21), [0], []),
   (.iload_n 1, (35, 1, 22), [], []),
   (.iadd, (36, 1, 23), [0], []),
   (.iaload, (37, 1, 24), [], []),
   (.ifCond .eq 5, (38, 3, 25), [27], []),
   (.iload_n 2, (41, 1, 26), [], []),
   (.ireturn, (42, 1, 27), [0], []),
   (.getstatic 36, (43, 3, 28), [0, 1001, 925, 1], []),
   (.iload_n 2, (46, 1, 29), [], []),
   (.iaload, (47, 1, 30), [], []),
   (.istore_n 2, (48, 1, 31), [], []),
   (.iinc 3 1, (49, 3, 32), [], [])],
  [(.goto (-48), (52, 3, 33), [4], []),
   (.iconst (-1), (55, 1, 34), [], []),
   (.ireturn, (56, 1, 35), [0], [])]]
def rw_A_begin : List (List xq_Row) := [
  [(.aload_n 0, (0, 1, 1), [], []),
   (.getfield 15, (1, 3, 2), [0, 0, 1, 357], [1]),
   (.ifCond .lt 22, (4, 3, 3), [13], []),
   (.aload_n 0, (7, 1, 4), [], []),
   (.getfield 15, (8, 3, 5), [0, 0, 1, 357], [1]),
   (.bipush 20, (11, 2, 6), [], []),
   (.if_icmp .ge 13, (13, 3, 7), [13], []),
   (.aload_n 0, (16, 1, 8), [], []),
   (.getfield 9, (17, 3, 9), [2, 0, 0, 355], [0]),
   (.aload_n 0, (20, 1, 10), [], []),
   (.getfield 15, (21, 3, 11), [0, 0, 1, 357], [1]),
   (.iload_n 1, (24, 1, 12), [], []),
   (.iastore, (25, 1, 13), [], []),
   (.aload_n 0, (26, 1, 14), [], []),
   (.dup, (27, 1, 15), [], []),
   (.getfield 15, (28, 3, 16), [0, 0, 1, 357], [1])],
  [(.iconst 1, (31, 1, 17), [], []),
   (.iadd, (32, 1, 18), [0], []),
   (.putfield 15, (33, 3, 19), [0, 0, 1, 357, 0], [1]),
   (.return_, (36, 1, 20), [], [])]]
def rw_B_init : List (List xq_Row) := [
  [(.aload_n 0, (0, 1, 1), [], []),
   (.invokespecial 3, (1, 3, 2), [241], []),
   (.aload_n 0, (4, 1, 3), [], []),
   (.bipush 8, (5, 2, 4), [], []),
   (.newarray .int, (7, 2, 5), [0], []),
   (.putfield 9, (9, 3, 6), [2, 1, 0, 242, 1], [0]),
   (.aload_n 0, (12, 1, 7), [], []),
   (.bipush 8, (13, 2, 8), [], []),
   (.newarray .int, (15, 2, 9), [0], []),
   (.putfield 15, (17, 3, 10), [2, 1, 1, 244, 1], [1]),
   (.aload_n 0, (20, 1, 11), [], []),
   (.bipush 8, (21, 2, 12), [], []),
   (.newarray .int, (23, 2, 13), [0], []),
   (.putfield 18, (25, 3, 14), [2, 1, 2, 246, 1], [2]),
   (.aload_n 0, (28, 1, 15), [], []),
   (.iconst 0, (29, 1, 16), [], [])],
  [(.putfield 21, (30, 3, 17), [0, 1, 3, 248, 0], [3]),
   (.return_, (33, 1, 18), [], [])]]
def rw_B_add : List (List xq_Row) := [
  [(.aload_n 0, (0, 1, 1), [], []),
   (.getfield 21, (1, 3, 2), [0, 1, 3, 248], [3]),
   (.ifCond .lt 12, (4, 3, 3), [7], []),
   (.aload_n 0, (7, 1, 4), [], []),
   (.getfield 21, (8, 3, 5), [0, 1, 3, 248], [3]),
   (.bipush 8, (11, 2, 6), [], []),
   (.if_icmp .lt 5, (13, 3, 7), [9], []),
   (.iconst 0, (16, 1, 8), [], []),
   (.ireturn, (17, 1, 9), [1], []),
   (.aload_n 0, (18, 1, 10), [], []),
   (.getfield 9, (19, 3, 11), [2, 1, 0, 242], [0]),
   (.aload_n 0, (22, 1, 12), [], []),
   (.getfield 21, (23, 3, 13), [0, 1, 3, 248], [3]),
   (.iload_n 1, (26, 1, 14), [], []),
   (.iastore, (27, 1, 15), [], []),
   (.aload_n 0, (28, 1, 16), [], [])],
  [(.getfield 15, (29, 3, 17), [2, 1, 1, 244], [1]),
   (.aload_n 0, (32, 1, 18), [], []),
   (.getfield 21, (33, 3, 19), [0, 1, 3, 248], [3]),
   (.iload_n 2, (36, 1, 20), [], []),
   (.iastore, (37, 1, 21), [], []),
   (.aload_n 0, (38, 1, 22), [], []),
   (.getfield 18, (39, 3, 23), [2, 1, 2, 246], [2]),
   (.aload_n 0, (42, 1, 24), [], []),
   (.getfield 21, (43, 3, 25), [0, 1, 3, 248], [3]),
   (.iload_n 3, (46, 1, 26), [], []),
   (.iastore, (47, 1, 27), [], []),
   (.aload_n 0, (48, 1, 28), [], []),
   (.dup, (49, 1, 29), [], []),
   (.getfield 21, (50, 3, 30), [0, 1, 3, 248], [3]),
   (.iconst 1, (53, 1, 31), [], []),
   (.iadd, (54, 1, 32), [0], [])],
  [(.putfield 21, (55, 3, 33), [0, 1, 3, 248, 0], [3]),
   (.iconst 1, (58, 1, 34), [], []),
   (.ireturn, (59, 1, 35), [1], [])]]
def rw_B_copy : List (List xq_Row) := [
  [(.aload_n 1, (0, 1, 1), [], []),
   (.getfield 9, (1, 3, 2), [2, 1, 0, 242], [0]),
   (.aload_n 0, (4, 1, 3), [], []),
   (.getfield 9, (5, 3, 4), [2, 1, 0, 242], [0]),
   (.invokestatic 25, (8, 3, 5), [127, 2, 0, 0, 2, 971, 580, 0, 581, 69], []),
   (.aload_n 1, (11, 1, 6), [], []),
   (.getfield 15, (12, 3, 7), [2, 1, 1, 244], [1]),
   (.aload_n 0, (15, 1, 8), [], []),
   (.getfield 15, (16, 3, 9), [2, 1, 1, 244], [1]),
   (.invokestatic 25, (19, 3, 10), [127, 2, 0, 0, 2, 971, 580, 0, 581, 69], []),
   (.aload_n 1, (22, 1, 11), [], []),
   (.getfield 18, (23, 3, 12), [2, 1, 2, 246], [2]),
   (.aload_n 0, (26, 1, 13), [], []),
   (.getfield 18, (27, 3, 14), [2, 1, 2, 246], [2]),
   (.invokestatic 25, (30, 3, 15), [127, 2, 0, 0, 2, 971, 580, 0, 581, 69], []),
   (.aload_n 0, (33, 1, 16), [], [])],
  [(.aload_n 1, (34, 1, 17), [], []),
   (.getfield 21, (35, 3, 18), [0, 1, 3, 248], [3]),
   (.putfield 21, (38, 3, 19), [0, 1, 3, 248, 0], [3]),
   (.return_, (41, 1, 20), [], [])]]
def rw_C_init : List (List xq_Row) := [
  [(.aload_n 0, (0, 1, 1), [], []),
   (.invokespecial 3, (1, 3, 2), [149], []),
   (.aload_n 0, (4, 1, 3), [], []),
   (.iconst 5, (5, 1, 4), [], []),
   (.newarray .int, (6, 2, 5), [0], []),
   (.putfield 9, (8, 3, 6), [2, 2, 0, 150, 1], [0]),
   (.aload_n 0, (11, 1, 7), [], []),
   (.iconst 5, (12, 1, 8), [], []),
   (.newarray .int, (13, 2, 9), [0], []),
   (.putfield 15, (15, 3, 10), [2, 2, 1, 153, 1], [1]),
   (.aload_n 0, (18, 1, 11), [], []),
   (.bipush 20, (19, 2, 12), [], []),
   (.newarray .int, (21, 2, 13), [0], []),
   (.putfield 18, (23, 3, 14), [2, 2, 2, 156, 1], [2]),
   (.aload_n 0, (26, 1, 15), [], []),
   (.iconst 0, (27, 1, 16), [], [])],
  [(.putfield 21, (28, 3, 17), [0, 2, 3, 159, 0], [3]),
   (.return_, (31, 1, 18), [], [])]]
def rw_C_has : List (List xq_Row) := [
  [(.iload_n 1, (0, 1, 1), [], []),
   (.ifCond .lt 15, (1, 3, 2), [8], []),
   (.iload_n 1, (4, 1, 3), [], []),
   (.aload_n 0, (5, 1, 4), [], []),
   (.getfield 21, (6, 3, 5), [0, 2, 3, 159], [3]),
   (.if_icmp .ge 7, (9, 3, 6), [8], []),
   (.iconst 1, (12, 1, 7), [], []),
   (.goto 4, (13, 3, 8), [9], []),
   (.iconst 0, (16, 1, 9), [], []),
   (.ireturn, (17, 1, 10), [1], [])]]
def rw_C_add : List (List xq_Row) := [
  [(.aload_n 0, (0, 1, 1), [], []),
   (.getfield 21, (1, 3, 2), [0, 2, 3, 159], [3]),
   (.ifCond .lt 11, (4, 3, 3), [7], []),
   (.aload_n 0, (7, 1, 4), [], []),
   (.getfield 21, (8, 3, 5), [0, 2, 3, 159], [3]),
   (.iconst 5, (11, 1, 6), [], []),
   (.if_icmp .lt 5, (12, 3, 7), [9], []),
   (.iconst 0, (15, 1, 8), [], []),
   (.ireturn, (16, 1, 9), [1], []),
   (.aload_n 0, (17, 1, 10), [], []),
   (.getfield 9, (18, 3, 11), [2, 2, 0, 150], [0]),
   (.aload_n 0, (21, 1, 12), [], []),
   (.getfield 21, (22, 3, 13), [0, 2, 3, 159], [3]),
   (.iload_n 1, (25, 1, 14), [], []),
   (.iastore, (26, 1, 15), [], []),
   (.aload_n 0, (27, 1, 16), [], [])],
  [(.getfield 15, (28, 3, 17), [2, 2, 1, 153], [1]),
   (.aload_n 0, (31, 1, 18), [], []),
   (.getfield 21, (32, 3, 19), [0, 2, 3, 159], [3]),
   (.iload_n 2, (35, 1, 20), [], []),
   (.iastore, (36, 1, 21), [], []),
   (.iconst 0, (37, 1, 22), [], []),
   (.istore_n 3, (38, 1, 23), [], []),
   (.iload_n 3, (39, 1, 24), [], []),
   (.iconst 4, (40, 1, 25), [], []),
   (.if_icmp .ge 23, (41, 3, 26), [38], []),
   (.aload_n 0, (44, 1, 27), [], []),
   (.getfield 18, (45, 3, 28), [2, 2, 2, 156], [2]),
   (.aload_n 0, (48, 1, 29), [], []),
   (.getfield 21, (49, 3, 30), [0, 2, 3, 159], [3]),
   (.iconst 4, (52, 1, 31), [], []),
   (.imul, (53, 1, 32), [0], [])],
  [(.iload_n 3, (54, 1, 33), [], []),
   (.iadd, (55, 1, 34), [0], []),
   (.iconst 0, (56, 1, 35), [], []),
   (.iastore, (57, 1, 36), [], []),
   (.iinc 3 1, (58, 3, 37), [], []),
   (.goto (-22), (61, 3, 38), [23], []),
   (.aload_n 0, (64, 1, 39), [], []),
   (.dup, (65, 1, 40), [], []),
   (.getfield 21, (66, 3, 41), [0, 2, 3, 159], [3]),
   (.iconst 1, (69, 1, 42), [], []),
   (.iadd, (70, 1, 43), [0], []),
   (.putfield 21, (71, 3, 44), [0, 2, 3, 159, 0], [3]),
   (.iconst 1, (74, 1, 45), [], []),
   (.ireturn, (75, 1, 46), [1], [])]]
def rw_C_copy : List (List xq_Row) := [
  [(.aload_n 1, (0, 1, 1), [], []),
   (.getfield 9, (1, 3, 2), [2, 2, 0, 150], [0]),
   (.aload_n 0, (4, 1, 3), [], []),
   (.getfield 9, (5, 3, 4), [2, 2, 0, 150], [0]),
   (.invokestatic 25, (8, 3, 5), [127, 2, 0, 0, 2, 960, 580, 0, 581, 69], []),
   (.aload_n 1, (11, 1, 6), [], []),
   (.getfield 15, (12, 3, 7), [2, 2, 1, 153], [1]),
   (.aload_n 0, (15, 1, 8), [], []),
   (.getfield 15, (16, 3, 9), [2, 2, 1, 153], [1]),
   (.invokestatic 25, (19, 3, 10), [127, 2, 0, 0, 2, 960, 580, 0, 581, 69], []),
   (.aload_n 1, (22, 1, 11), [], []),
   (.getfield 18, (23, 3, 12), [2, 2, 2, 156], [2]),
   (.aload_n 0, (26, 1, 13), [], []),
   (.getfield 18, (27, 3, 14), [2, 2, 2, 156], [2]),
   (.invokestatic 25, (30, 3, 15), [127, 2, 0, 0, 2, 960, 580, 0, 581, 69], []),
   (.aload_n 0, (33, 1, 16), [], [])],
  [(.aload_n 1, (34, 1, 17), [], []),
   (.getfield 21, (35, 3, 18), [0, 2, 3, 159], [3]),
   (.putfield 21, (38, 3, 19), [0, 2, 3, 159, 0], [3]),
   (.return_, (41, 1, 20), [], [])]]
def rw_K_init : List (List xq_Row) := [
  [(.aload_n 0, (0, 1, 1), [], []),
   (.invokespecial 3, (1, 3, 2), [100], []),
   (.aload_n 0, (4, 1, 3), [], []),
   (.new 9, (5, 3, 4), [6, 101, 102, 71], []),
   (.dup, (8, 1, 5), [], []),
   (.invokespecial 11, (9, 3, 6), [64, 0, 23, 0, 3, 103, 104, 0, 105, 71], []),
   (.putfield 12, (12, 3, 7), [2, 3, 0, 296, 1], [0]),
   (.aload_n 0, (15, 1, 8), [], []),
   (.bipush 8, (16, 2, 9), [], []),
   (.newarray .int, (18, 2, 10), [0], []),
   (.putfield 18, (20, 3, 11), [2, 3, 1, 298, 1], [1]),
   (.aload_n 0, (23, 1, 12), [], []),
   (.iconst 0, (24, 1, 13), [], []),
   (.putfield 22, (25, 3, 14), [0, 3, 2, 300, 0], [2]),
   (.aload_n 0, (28, 1, 15), [], []),
   (.iconst (-1), (29, 1, 16), [], [])],
  [(.putfield 26, (30, 3, 17), [0, 3, 3, 302, 0], [3]),
   (.aload_n 0, (33, 1, 18), [], []),
   (.iconst 5, (34, 1, 19), [], []),
   (.newarray .int, (35, 2, 20), [0], []),
   (.putfield 29, (37, 3, 21), [2, 3, 4, 304, 1], [4]),
   (.aload_n 0, (40, 1, 22), [], []),
   (.iconst 0, (41, 1, 23), [], []),
   (.putfield 32, (42, 3, 24), [0, 3, 5, 305, 0], [5]),
   (.aload_n 0, (45, 1, 25), [], []),
   (.bipush 6, (46, 2, 26), [], []),
   (.newarray .int, (48, 2, 27), [0], []),
   (.putfield 35, (50, 3, 28), [2, 3, 6, 306, 1], [6]),
   (.aload_n 0, (53, 1, 29), [], []),
   (.bipush 6, (54, 2, 30), [], []),
   (.newarray .int, (56, 2, 31), [0], []),
   (.putfield 40, (58, 3, 32), [2, 3, 7, 307, 1], [7])],
  [(.return_, (61, 1, 33), [], [])]]
def rw_K_settle : List (List xq_Row) := [
  [(.aload_n 0, (0, 1, 1), [], []),
   (.getfield 12, (1, 3, 2), [2, 3, 0, 296], [0]),
   (.getfield 43, (4, 3, 3), [2, 6, 0, 260], [0]),
   (.getfield 47, (7, 3, 4), [2, 8, 1, 117], [1]),
   (.aload_n 0, (10, 1, 5), [], []),
   (.getfield 18, (11, 3, 6), [2, 3, 1, 298], [1]),
   (.invokestatic 50, (14, 3, 7), [127, 2, 0, 0, 2, 648, 580, 0, 581, 69], []),
   (.aload_n 0, (17, 1, 8), [], []),
   (.aload_n 0, (18, 1, 9), [], []),
   (.getfield 12, (19, 3, 10), [2, 3, 0, 296], [0]),
   (.getfield 54, (22, 3, 11), [2, 6, 2, 266], [2]),
   (.getfield 58, (25, 3, 12), [0, 7, 4, 185], [4]),
   (.putfield 22, (28, 3, 13), [0, 3, 2, 300, 0], [2]),
   (.aload_n 0, (31, 1, 14), [], []),
   (.aload_n 0, (32, 1, 15), [], []),
   (.getfield 12, (33, 3, 16), [2, 3, 0, 296], [0])],
  [(.getfield 43, (36, 3, 17), [2, 6, 0, 260], [0]),
   (.aload_n 0, (39, 1, 18), [], []),
   (.getfield 12, (40, 3, 19), [2, 3, 0, 296], [0]),
   (.getfield 54, (43, 3, 20), [2, 6, 2, 266], [2]),
   (.invokevirtual 61, (46, 3, 21), [68, 0, 0, 7, 0, 649, 650, 651, 652, 74], []),
   (.invokevirtual 64, (49, 3, 22), [75, 1, 0, 8, 0, 653, 596, 597, 598, 72], []),
   (.putfield 26, (52, 3, 23), [0, 3, 3, 302, 0], [3]),
   (.return_, (55, 1, 24), [], [])]]
def rw_K_typeOnce : List (List xq_Row) := [
  [(.aload_n 0, (0, 1, 1), [], []),
   (.iload_n 1, (1, 1, 2), [], []),
   (.iload_n 2, (2, 1, 3), [], []),
   (.invokevirtual 68, (3, 3, 4), [32, 2, 0, 3, 0, 658, 659, 660, 661, 70], []),
   (.istore_n 3, (6, 1, 5), [], []),
   (.aload_n 0, (7, 1, 6), [], []),
   (.aload_n 0, (8, 1, 7), [], []),
   (.getfield 12, (9, 3, 8), [2, 3, 0, 296], [0]),
   (.getfield 43, (12, 3, 9), [2, 6, 0, 260], [0]),
   (.iload_n 3, (15, 1, 10), [], []),
   (.invokevirtual 64, (16, 3, 11), [75, 1, 0, 8, 0, 653, 596, 597, 598, 72], []),
   (.putfield 26, (19, 3, 12), [0, 3, 3, 302, 0], [3]),
   (.aload_n 0, (22, 1, 13), [], []),
   (.getfield 12, (23, 3, 14), [2, 3, 0, 296], [0]),
   (.getfield 43, (26, 3, 15), [2, 6, 0, 260], [0]),
   (.aload_n 0, (29, 1, 16), [], [])],
  [(.getfield 26, (30, 3, 17), [0, 3, 3, 302], [3]),
   (.invokevirtual 72, (33, 3, 18), [73, 1, 0, 8, 0, 680, 609, 610, 611, 72], []),
   (.ifCond .eq 48, (36, 3, 19), [43], []),
   (.aload_n 0, (39, 1, 20), [], []),
   (.iload_n 1, (40, 1, 21), [], []),
   (.invokevirtual 76, (41, 3, 22), [37, 1, 0, 3, 0, 662, 664, 9, 665, 70], []),
   (.iconst 4, (44, 1, 23), [], []),
   (.if_icmp .ne 39, (45, 3, 24), [43], []),
   (.aload_n 0, (48, 1, 25), [], []),
   (.getfield 18, (49, 3, 26), [2, 3, 1, 298], [1]),
   (.aload_n 0, (52, 1, 27), [], []),
   (.getfield 26, (53, 3, 28), [0, 3, 3, 302], [3]),
   (.bipush 99, (56, 2, 29), [], []),
   (.aload_n 0, (58, 1, 30), [], []),
   (.getfield 18, (59, 3, 31), [2, 3, 1, 298], [1]),
   (.aload_n 0, (62, 1, 32), [], [])],
  [(.getfield 26, (63, 3, 33), [0, 3, 3, 302], [3]),
   (.iaload, (66, 1, 34), [], []),
   (.aload_n 0, (67, 1, 35), [], []),
   (.getfield 12, (68, 3, 36), [2, 3, 0, 296], [0]),
   (.getfield 79, (71, 3, 37), [2, 6, 1, 263], [1]),
   (.getfield 83, (74, 3, 38), [2, 2, 1, 154], [1]),
   (.iload_n 1, (77, 1, 39), [], []),
   (.iaload, (78, 1, 40), [], []),
   (.iadd, (79, 1, 41), [0], []),
   (.invokestatic 88, (80, 3, 42), [0, 2, 0, 0, 1, 689, 411, 0, 412, 80], []),
   (.iastore, (83, 1, 43), [], []),
   (.aload_n 0, (84, 1, 44), [], []),
   (.dup, (85, 1, 45), [], []),
   (.getfield 22, (86, 3, 46), [0, 3, 2, 300], [2]),
   (.iconst 1, (89, 1, 47), [], []),
   (.iadd, (90, 1, 48), [0], [])],
  [(.putfield 22, (91, 3, 49), [0, 3, 2, 300, 0], [2]),
   (.iload_n 3, (94, 1, 50), [], []),
   (.ireturn, (95, 1, 51), [0], [])]]
def rw_K_madeOf : List (List xq_Row) := [
  [(.aload_n 0, (0, 1, 1), [], []),
   (.iload_n 1, (1, 1, 2), [], []),
   (.invokevirtual 76, (2, 3, 3), [37, 1, 0, 3, 0, 662, 664, 9, 665, 70], []),
   (.istore_n 3, (5, 1, 4), [], []),
   (.iload_n 3, (6, 1, 5), [], []),
   (.iconst 3, (7, 1, 6), [], []),
   (.if_icmp .eq 9, (8, 3, 7), [10], []),
   (.iload_n 3, (11, 1, 8), [], []),
   (.bipush 6, (12, 2, 9), [], []),
   (.if_icmp .ne 19, (14, 3, 10), [18], []),
   (.aload_n 0, (17, 1, 11), [], []),
   (.getfield 12, (18, 3, 12), [2, 3, 0, 296], [0]),
   (.getfield 54, (21, 3, 13), [2, 6, 2, 266], [2]),
   (.iload_n 2, (24, 1, 14), [], []),
   (.invokevirtual 93, (25, 3, 15), [70, 1, 0, 7, 0, 667, 668, 669, 670, 74], []),
   (.ifCond .eq 5, (28, 3, 16), [18], [])],
  [(.iload_n 2, (31, 1, 17), [], []),
   (.ireturn, (32, 1, 18), [0], []),
   (.aload_n 0, (33, 1, 19), [], []),
   (.iload_n 2, (34, 1, 20), [], []),
   (.invokevirtual 96, (35, 3, 21), [38, 1, 0, 3, 0, 671, 673, 10, 674, 70], []),
   (.iload_n 2, (38, 1, 22), [], []),
   (.istore 4, (39, 2, 23), [], []),
   (.bipush 10, (41, 2, 24), [], []),
   (.aload_n 0, (43, 1, 25), [], []),
   (.getfield 12, (44, 3, 26), [2, 3, 0, 296], [0]),
   (.getfield 100, (47, 3, 27), [2, 6, 3, 270], [3]),
   (.getfield 104, (50, 3, 28), [0, 4, 0, 209], [0]),
   (.imul, (53, 1, 29), [0], []),
   (.istore 5, (54, 2, 30), [], []),
   (.iconst 0, (56, 1, 31), [], []),
   (.istore 6, (57, 2, 32), [], [])],
  [(.iload 6, (59, 2, 33), [], []),
   (.aload_n 0, (61, 1, 34), [], []),
   (.getfield 12, (62, 3, 35), [2, 3, 0, 296], [0]),
   (.getfield 43, (65, 3, 36), [2, 6, 0, 260], [0]),
   (.getfield 107, (68, 3, 37), [0, 8, 5, 129], [5]),
   (.if_icmp .ge 55, (71, 3, 38), [64], []),
   (.bipush 10, (74, 2, 39), [], []),
   (.aload_n 0, (76, 1, 40), [], []),
   (.iload_n 1, (77, 1, 41), [], []),
   (.iload 6, (78, 2, 42), [], []),
   (.invokevirtual 108, (80, 3, 43), [39, 2, 0, 3, 0, 676, 678, 11, 679, 70], []),
   (.imul, (83, 1, 44), [0], []),
   (.aload_n 0, (84, 1, 45), [], []),
   (.getfield 18, (85, 3, 46), [2, 3, 1, 298], [1]),
   (.iload 6, (88, 2, 47), [], []),
   (.iaload, (90, 1, 48), [], [])],
  [(.isub, (91, 1, 49), [0], []),
   (.istore 7, (92, 2, 50), [], []),
   (.iload 7, (94, 2, 51), [], []),
   (.iload 5, (96, 2, 52), [], []),
   (.if_icmp .ge 22, (98, 3, 53), [62], []),
   (.iload 7, (101, 2, 54), [], []),
   (.istore 5, (103, 2, 55), [], []),
   (.aload_n 0, (105, 1, 56), [], []),
   (.getfield 12, (106, 3, 57), [2, 3, 0, 296], [0]),
   (.getfield 43, (109, 3, 58), [2, 6, 0, 260], [0]),
   (.getfield 111, (112, 3, 59), [2, 8, 0, 114], [0]),
   (.iload 6, (115, 2, 60), [], []),
   (.iaload, (117, 1, 61), [], []),
   (.istore 4, (118, 2, 62), [], []),
   (.iinc 6 1, (120, 3, 63), [], []),
   (.goto (-64), (123, 3, 64), [32], [])],
  [(.iload 4, (126, 2, 65), [], []),
   (.ireturn, (128, 1, 66), [0], [])]]
def rw_K_costOf : List (List xq_Row) := [
  [(.aload_n 0, (0, 1, 1), [], []),
   (.iload_n 2, (1, 1, 2), [], []),
   (.invokevirtual 96, (2, 3, 3), [38, 1, 0, 3, 0, 671, 673, 10, 674, 70], []),
   (.aload_n 0, (5, 1, 4), [], []),
   (.iload_n 1, (6, 1, 5), [], []),
   (.iload_n 3, (7, 1, 6), [], []),
   (.invokevirtual 108, (8, 3, 7), [39, 2, 0, 3, 0, 676, 678, 11, 679, 70], []),
   (.ireturn, (11, 1, 8), [0], [])]]
def rw_K_priceOf : List (List xq_Row) := [
  [(.aload_n 0, (0, 1, 1), [], []),
   (.getfield 12, (1, 3, 2), [2, 3, 0, 296], [0]),
   (.getfield 43, (4, 3, 3), [2, 6, 0, 260], [0]),
   (.iload_n 3, (7, 1, 4), [], []),
   (.invokevirtual 72, (8, 3, 5), [73, 1, 0, 8, 0, 680, 609, 610, 611, 72], []),
   (.ifCond .eq 23, (11, 3, 6), [19], []),
   (.bipush 10, (14, 2, 7), [], []),
   (.aload_n 0, (16, 1, 8), [], []),
   (.iload_n 1, (17, 1, 9), [], []),
   (.iload_n 2, (18, 1, 10), [], []),
   (.iload_n 3, (19, 1, 11), [], []),
   (.invokevirtual 114, (20, 3, 12), [33, 3, 0, 3, 0, 763, 756, 757, 758, 70], []),
   (.imul, (23, 1, 13), [0], []),
   (.aload_n 0, (24, 1, 14), [], []),
   (.getfield 18, (25, 3, 15), [2, 3, 1, 298], [1]),
   (.iload_n 3, (28, 1, 16), [], [])],
  [(.iaload, (29, 1, 17), [], []),
   (.isub, (30, 1, 18), [0], []),
   (.goto 4, (31, 3, 19), [20], []),
   (.iconst 0, (34, 1, 20), [], []),
   (.ireturn, (35, 1, 21), [0], [])]]
def rw_K_plainFar : List (List xq_Row) := [
  [(.aload_n 0, (0, 1, 1), [], []),
   (.iload_n 1, (1, 1, 2), [], []),
   (.invokevirtual 96, (2, 3, 3), [38, 1, 0, 3, 0, 671, 673, 10, 674, 70], []),
   (.aload_n 0, (5, 1, 4), [], []),
   (.aload_n 0, (6, 1, 5), [], []),
   (.getfield 12, (7, 3, 6), [2, 3, 0, 296], [0]),
   (.getfield 100, (10, 3, 7), [2, 6, 3, 270], [3]),
   (.getfield 118, (13, 3, 8), [0, 4, 1, 214], [1]),
   (.iload_n 2, (16, 1, 9), [], []),
   (.invokevirtual 121, (17, 3, 10), [43, 2, 0, 3, 0, 690, 692, 14, 693, 70], []),
   (.ireturn, (20, 1, 11), [0], [])]]
def rw_K_slipsInto : List (List xq_Row) := [
  [(.iconst 0, (0, 1, 1), [], []),
   (.istore 4, (1, 2, 2), [], []),
   (.iload_n 2, (3, 1, 3), [], []),
   (.istore 5, (4, 2, 4), [], []),
   (.iconst 1, (6, 1, 5), [], []),
   (.istore 6, (7, 2, 6), [], []),
   (.iconst 0, (9, 1, 7), [], []),
   (.istore 7, (10, 2, 8), [], []),
   (.iload 7, (12, 2, 9), [], []),
   (.iconst 5, (14, 1, 10), [], []),
   (.if_icmp .ge 83, (15, 3, 11), [51], []),
   (.iload 5, (18, 2, 12), [], []),
   (.ifCond .le 78, (20, 3, 13), [51], []),
   (.iload 5, (23, 2, 14), [], []),
   (.bipush 10, (25, 2, 15), [], []),
   (.irem, (27, 1, 16), [], [])],
  [(.istore 8, (28, 2, 17), [], []),
   (.iconst 1, (30, 1, 18), [], []),
   (.istore 9, (31, 2, 19), [], []),
   (.iload 9, (33, 2, 20), [], []),
   (.bipush 8, (35, 2, 21), [], []),
   (.if_icmp .gt 41, (37, 3, 22), [41], []),
   (.iload 8, (40, 2, 23), [], []),
   (.iload 9, (42, 2, 24), [], []),
   (.invokestatic 124, (44, 3, 25), [133, 2, 0, 0, 2, 694, 695, 0, 696, 69], []),
   (.ifCond .eq 25, (47, 3, 26), [39], []),
   (.aload_n 0, (50, 1, 27), [], []),
   (.iload_n 1, (51, 1, 28), [], []),
   (.iload_n 2, (52, 1, 29), [], []),
   (.iload 9, (53, 2, 30), [], []),
   (.iload 8, (55, 2, 31), [], []),
   (.isub, (57, 1, 32), [0], [])],
  [(.iload 6, (58, 2, 33), [], []),
   (.imul, (60, 1, 34), [0], []),
   (.iadd, (61, 1, 35), [0], []),
   (.invokevirtual 68, (62, 3, 36), [32, 2, 0, 3, 0, 658, 659, 660, 661, 70], []),
   (.iload_n 3, (65, 1, 37), [], []),
   (.if_icmp .ne 6, (66, 3, 38), [39], []),
   (.iinc 4 1, (69, 3, 39), [], []),
   (.iinc 9 1, (72, 3, 40), [], []),
   (.goto (-42), (75, 3, 41), [19], []),
   (.iload 5, (78, 2, 42), [], []),
   (.bipush 10, (80, 2, 43), [], []),
   (.idiv, (82, 1, 44), [], []),
   (.istore 5, (83, 2, 45), [], []),
   (.iload 6, (85, 2, 46), [], []),
   (.bipush 10, (87, 2, 47), [], []),
   (.imul, (89, 1, 48), [0], [])],
  [(.istore 6, (90, 2, 49), [], []),
   (.iinc 7 1, (92, 3, 50), [], []),
   (.goto (-83), (95, 3, 51), [8], []),
   (.iload 4, (98, 2, 52), [], []),
   (.ireturn, (100, 1, 53), [0], [])]]
def rw_K_kindOf : List (List xq_Row) := [
  [(.aload_n 0, (0, 1, 1), [], []),
   (.getfield 12, (1, 3, 2), [2, 3, 0, 296], [0]),
   (.getfield 79, (4, 3, 3), [2, 6, 1, 263], [1]),
   (.iload_n 1, (7, 1, 4), [], []),
   (.invokevirtual 128, (8, 3, 5), [26, 1, 0, 2, 0, 666, 633, 634, 635, 73], []),
   (.ifCond .eq 18, (11, 3, 6), [13], []),
   (.aload_n 0, (14, 1, 7), [], []),
   (.getfield 12, (15, 3, 8), [2, 3, 0, 296], [0]),
   (.getfield 79, (18, 3, 9), [2, 6, 1, 263], [1]),
   (.getfield 129, (21, 3, 10), [2, 2, 0, 151], [0]),
   (.iload_n 1, (24, 1, 11), [], []),
   (.iaload, (25, 1, 12), [], []),
   (.goto 4, (26, 3, 13), [14], []),
   (.iconst 0, (29, 1, 14), [], []),
   (.ireturn, (30, 1, 15), [0], [])]]
def rw_K_spread : List (List xq_Row) := [
  [(.aload_n 0, (0, 1, 1), [], []),
   (.iload_n 1, (1, 1, 2), [], []),
   (.invokestatic 132, (2, 3, 3), [131, 1, 0, 0, 2, 675, 592, 0, 593, 69], []),
   (.putfield 32, (5, 3, 4), [0, 3, 5, 305, 0], [5]),
   (.iload_n 1, (8, 1, 5), [], []),
   (.istore_n 2, (9, 1, 6), [], []),
   (.aload_n 0, (10, 1, 7), [], []),
   (.getfield 32, (11, 3, 8), [0, 3, 5, 305], [5]),
   (.iconst 1, (14, 1, 9), [], []),
   (.isub, (15, 1, 10), [0], []),
   (.istore_n 3, (16, 1, 11), [], []),
   (.iload_n 3, (17, 1, 12), [], []),
   (.ifCond .lt 29, (18, 3, 13), [29], []),
   (.iload_n 3, (21, 1, 14), [], []),
   (.iconst 5, (22, 1, 15), [], []),
   (.if_icmp .ge 24, (23, 3, 16), [29], [])],
  [(.aload_n 0, (26, 1, 17), [], []),
   (.getfield 29, (27, 3, 18), [2, 3, 4, 304], [4]),
   (.iload_n 3, (30, 1, 19), [], []),
   (.iload_n 2, (31, 1, 20), [], []),
   (.bipush 10, (32, 2, 21), [], []),
   (.irem, (34, 1, 22), [], []),
   (.iastore, (35, 1, 23), [], []),
   (.iload_n 2, (36, 1, 24), [], []),
   (.bipush 10, (37, 2, 25), [], []),
   (.idiv, (39, 1, 26), [], []),
   (.istore_n 2, (40, 1, 27), [], []),
   (.iinc 3 (-1), (41, 3, 28), [], []),
   (.goto (-27), (44, 3, 29), [11], []),
   (.return_, (47, 1, 30), [], [])]]
def rw_K_spreadCost : List (List xq_Row) := [
  [(.aload_n 0, (0, 1, 1), [], []),
   (.getfield 12, (1, 3, 2), [2, 3, 0, 296], [0]),
   (.getfield 79, (4, 3, 3), [2, 6, 1, 263], [1]),
   (.iload_n 1, (7, 1, 4), [], []),
   (.invokevirtual 128, (8, 3, 5), [26, 1, 0, 2, 0, 666, 633, 634, 635, 73], []),
   (.ifCond .eq 17, (11, 3, 6), [12], []),
   (.aload_n 0, (14, 1, 7), [], []),
   (.getfield 12, (15, 3, 8), [2, 3, 0, 296], [0]),
   (.getfield 43, (18, 3, 9), [2, 6, 0, 260], [0]),
   (.iload_n 2, (21, 1, 10), [], []),
   (.invokevirtual 72, (22, 3, 11), [73, 1, 0, 8, 0, 680, 609, 610, 611, 72], []),
   (.ifCond .ne 5, (25, 3, 12), [14], []),
   (.iconst 0, (28, 1, 13), [], []),
   (.ireturn, (29, 1, 14), [0], []),
   (.aload_n 0, (30, 1, 15), [], []),
   (.getfield 12, (31, 3, 16), [2, 3, 0, 296], [0])],
  [(.getfield 79, (34, 3, 17), [2, 6, 1, 263], [1]),
   (.getfield 129, (37, 3, 18), [2, 2, 0, 151], [0]),
   (.iload_n 1, (40, 1, 19), [], []),
   (.iaload, (41, 1, 20), [], []),
   (.istore_n 3, (42, 1, 21), [], []),
   (.aload_n 0, (43, 1, 22), [], []),
   (.iload_n 3, (44, 1, 23), [], []),
   (.iload_n 2, (45, 1, 24), [], []),
   (.invokevirtual 135, (46, 3, 25), [41, 2, 0, 3, 0, 681, 683, 12, 684, 70], []),
   (.aload_n 0, (49, 1, 26), [], []),
   (.getfield 12, (50, 3, 27), [2, 3, 0, 296], [0]),
   (.getfield 100, (53, 3, 28), [2, 6, 3, 270], [3]),
   (.aload_n 0, (56, 1, 29), [], []),
   (.iload_n 3, (57, 1, 30), [], []),
   (.iload_n 2, (58, 1, 31), [], []),
   (.invokevirtual 138, (59, 3, 32), [40, 2, 0, 3, 0, 697, 699, 15, 700, 70], [])],
  [(.invokevirtual 142, (62, 3, 33), [48, 1, 0, 4, 0, 704, 705, 706, 707, 75], []),
   (.iadd, (65, 1, 34), [0], []),
   (.istore 4, (66, 2, 35), [], []),
   (.iload_n 3, (68, 1, 36), [], []),
   (.iconst 2, (69, 1, 37), [], []),
   (.if_icmp .eq 8, (70, 3, 38), [41], []),
   (.iload_n 3, (73, 1, 39), [], []),
   (.iconst 5, (74, 1, 40), [], []),
   (.if_icmp .ne 46, (75, 3, 41), [64], []),
   (.aload_n 0, (78, 1, 42), [], []),
   (.getfield 12, (79, 3, 43), [2, 3, 0, 296], [0]),
   (.getfield 43, (82, 3, 44), [2, 6, 0, 260], [0]),
   (.aload_n 0, (85, 1, 45), [], []),
   (.getfield 26, (86, 3, 46), [0, 3, 3, 302], [3]),
   (.invokevirtual 72, (89, 3, 47), [73, 1, 0, 8, 0, 680, 609, 610, 611, 72], []),
   (.ifCond .eq 29, (92, 3, 48), [64], [])],
  [(.iload 4, (95, 2, 49), [], []),
   (.aload_n 0, (97, 1, 50), [], []),
   (.getfield 12, (98, 3, 51), [2, 3, 0, 296], [0]),
   (.getfield 43, (101, 3, 52), [2, 6, 0, 260], [0]),
   (.getfield 146, (104, 3, 53), [2, 8, 2, 121], [2]),
   (.aload_n 0, (107, 1, 54), [], []),
   (.getfield 26, (108, 3, 55), [0, 3, 3, 302], [3]),
   (.iaload, (111, 1, 56), [], []),
   (.iload_n 2, (112, 1, 57), [], []),
   (.ishr, (113, 1, 58), [], []),
   (.iconst 1, (114, 1, 59), [], []),
   (.iand, (115, 1, 60), [], []),
   (.iconst 5, (116, 1, 61), [], []),
   (.imul, (117, 1, 62), [0], []),
   (.isub, (118, 1, 63), [0], []),
   (.istore 4, (119, 2, 64), [], [])],
  [(.iload_n 3, (121, 1, 65), [], []),
   (.bipush 6, (122, 2, 66), [], []),
   (.if_icmp .ne 31, (124, 3, 67), [83], []),
   (.iload 4, (127, 2, 68), [], []),
   (.aload_n 0, (129, 1, 69), [], []),
   (.getfield 12, (130, 3, 70), [2, 3, 0, 296], [0]),
   (.getfield 79, (133, 3, 71), [2, 6, 1, 263], [1]),
   (.getfield 149, (136, 3, 72), [2, 2, 2, 158], [2]),
   (.iload_n 1, (139, 1, 73), [], []),
   (.iconst 4, (140, 1, 74), [], []),
   (.imul, (141, 1, 75), [0], []),
   (.aload_n 0, (142, 1, 76), [], []),
   (.getfield 22, (143, 3, 77), [0, 3, 2, 300], [2]),
   (.iconst 4, (146, 1, 78), [], []),
   (.invokestatic 152, (147, 3, 79), [2, 2, 0, 0, 1, 701, 702, 0, 703, 80], []),
   (.iadd, (150, 1, 80), [0], [])],
  [(.iaload, (151, 1, 81), [], []),
   (.iadd, (152, 1, 82), [0], []),
   (.istore 4, (153, 2, 83), [], []),
   (.iconst 0, (155, 1, 84), [], []),
   (.iload 4, (156, 2, 85), [], []),
   (.invokestatic 155, (158, 3, 86), [1, 2, 0, 0, 1, 715, 525, 0, 526, 80], []),
   (.ireturn, (161, 1, 87), [0], [])]]
def rw_K_factsOf : List (List xq_Row) := [
  [(.aload_n 0, (0, 1, 1), [], []),
   (.getfield 40, (1, 3, 2), [2, 3, 7, 307], [7]),
   (.iconst 0, (4, 1, 3), [], []),
   (.aload_n 0, (5, 1, 4), [], []),
   (.getfield 32, (6, 3, 5), [0, 3, 5, 305], [5]),
   (.iastore, (9, 1, 6), [], []),
   (.aload_n 0, (10, 1, 7), [], []),
   (.getfield 40, (11, 3, 8), [2, 3, 7, 307], [7]),
   (.iconst 1, (14, 1, 9), [], []),
   (.aload_n 0, (15, 1, 10), [], []),
   (.getfield 12, (16, 3, 11), [2, 3, 0, 296], [0]),
   (.getfield 43, (19, 3, 12), [2, 6, 0, 260], [0]),
   (.getfield 158, (22, 3, 13), [2, 8, 3, 123], [3]),
   (.iload_n 2, (25, 1, 14), [], []),
   (.iaload, (26, 1, 15), [], []),
   (.iastore, (27, 1, 16), [], [])],
  [(.aload_n 0, (28, 1, 17), [], []),
   (.getfield 40, (29, 3, 18), [2, 3, 7, 307], [7]),
   (.iconst 2, (32, 1, 19), [], []),
   (.aload_n 0, (33, 1, 20), [], []),
   (.getfield 18, (34, 3, 21), [2, 3, 1, 298], [1]),
   (.iload_n 2, (37, 1, 22), [], []),
   (.iaload, (38, 1, 23), [], []),
   (.bipush 10, (39, 2, 24), [], []),
   (.idiv, (41, 1, 25), [], []),
   (.iastore, (42, 1, 26), [], []),
   (.aload_n 0, (43, 1, 27), [], []),
   (.getfield 40, (44, 3, 28), [2, 3, 7, 307], [7]),
   (.iconst 3, (47, 1, 29), [], []),
   (.iload_n 1, (48, 1, 30), [], []),
   (.iastore, (49, 1, 31), [], []),
   (.aload_n 0, (50, 1, 32), [], [])],
  [(.getfield 40, (51, 3, 33), [2, 3, 7, 307], [7]),
   (.iconst 4, (54, 1, 34), [], []),
   (.iload_n 2, (55, 1, 35), [], []),
   (.iastore, (56, 1, 36), [], []),
   (.aload_n 0, (57, 1, 37), [], []),
   (.getfield 40, (58, 3, 38), [2, 3, 7, 307], [7]),
   (.iconst 5, (61, 1, 39), [], []),
   (.aload_n 0, (62, 1, 40), [], []),
   (.getfield 22, (63, 3, 41), [0, 3, 2, 300], [2]),
   (.bipush 10, (66, 2, 42), [], []),
   (.invokestatic 152, (68, 3, 43), [2, 2, 0, 0, 1, 701, 702, 0, 703, 80], []),
   (.iastore, (71, 1, 44), [], []),
   (.aload_n 0, (72, 1, 45), [], []),
   (.getfield 40, (73, 3, 46), [2, 3, 7, 307], [7]),
   (.areturn, (76, 1, 47), [], [])]]
def rw_K_spreadFar : List (List xq_Row) := [
  [(.iload_n 1, (0, 1, 1), [], []),
   (.iconst 5, (1, 1, 2), [], []),
   (.if_icmp .ne 13, (2, 3, 3), [9], []),
   (.aload_n 0, (5, 1, 4), [], []),
   (.iload_n 2, (6, 1, 5), [], []),
   (.invokevirtual 161, (7, 3, 6), [42, 1, 0, 3, 0, 685, 687, 13, 688, 70], []),
   (.ifCond .eq 5, (10, 3, 7), [9], []),
   (.iconst 2, (13, 1, 8), [], []),
   (.ireturn, (14, 1, 9), [0], []),
   (.aload_n 0, (15, 1, 10), [], []),
   (.getfield 12, (16, 3, 11), [2, 3, 0, 296], [0]),
   (.getfield 100, (19, 3, 12), [2, 6, 3, 270], [3]),
   (.getfield 118, (22, 3, 13), [0, 4, 1, 214], [1]),
   (.istore_n 3, (25, 1, 14), [], []),
   (.aload_n 0, (26, 1, 15), [], []),
   (.iload_n 1, (27, 1, 16), [], [])],
  [(.iconst 1, (28, 1, 17), [], []),
   (.if_icmp .eq 8, (29, 3, 18), [21], []),
   (.iload_n 1, (32, 1, 19), [], []),
   (.iconst 4, (33, 1, 20), [], []),
   (.if_icmp .ne 11, (34, 3, 21), [25], []),
   (.iconst 4, (37, 1, 22), [], []),
   (.iload_n 3, (38, 1, 23), [], []),
   (.invokestatic 88, (39, 3, 24), [0, 2, 0, 0, 1, 689, 411, 0, 412, 80], []),
   (.goto 4, (42, 3, 25), [26], []),
   (.iload_n 3, (45, 1, 26), [], []),
   (.iload_n 2, (46, 1, 27), [], []),
   (.invokevirtual 121, (47, 3, 28), [43, 2, 0, 3, 0, 690, 692, 14, 693, 70], []),
   (.ireturn, (50, 1, 29), [0], [])]]
def rw_K_isBeginning : List (List xq_Row) := [
  [(.aload_n 0, (0, 1, 1), [], []),
   (.getfield 32, (1, 3, 2), [0, 3, 5, 305], [5]),
   (.aload_n 0, (4, 1, 3), [], []),
   (.getfield 12, (5, 3, 4), [2, 3, 0, 296], [0]),
   (.getfield 43, (8, 3, 5), [2, 6, 0, 260], [0]),
   (.getfield 158, (11, 3, 6), [2, 8, 3, 123], [3]),
   (.iload_n 1, (14, 1, 7), [], []),
   (.iaload, (15, 1, 8), [], []),
   (.if_icmp .lt 5, (16, 3, 9), [11], []),
   (.iconst 0, (19, 1, 10), [], []),
   (.ireturn, (20, 1, 11), [1], []),
   (.iconst 0, (21, 1, 12), [], []),
   (.istore_n 2, (22, 1, 13), [], []),
   (.iload_n 2, (23, 1, 14), [], []),
   (.aload_n 0, (24, 1, 15), [], []),
   (.getfield 32, (25, 3, 16), [0, 3, 5, 305], [5])],
  [(.if_icmp .ge 36, (28, 3, 17), [36], []),
   (.aload_n 0, (31, 1, 18), [], []),
   (.getfield 29, (32, 3, 19), [2, 3, 4, 304], [4]),
   (.iload_n 2, (35, 1, 20), [], []),
   (.iaload, (36, 1, 21), [], []),
   (.aload_n 0, (37, 1, 22), [], []),
   (.getfield 12, (38, 3, 23), [2, 3, 0, 296], [0]),
   (.getfield 43, (41, 3, 24), [2, 6, 0, 260], [0]),
   (.getfield 164, (44, 3, 25), [2, 8, 4, 126], [4]),
   (.iload_n 1, (47, 1, 26), [], []),
   (.iconst 5, (48, 1, 27), [], []),
   (.imul, (49, 1, 28), [0], []),
   (.iload_n 2, (50, 1, 29), [], []),
   (.iadd, (51, 1, 30), [0], []),
   (.iaload, (52, 1, 31), [], []),
   (.if_icmp .eq 5, (53, 3, 32), [34], [])],
  [(.iconst 0, (56, 1, 33), [], []),
   (.ireturn, (57, 1, 34), [1], []),
   (.iinc 2 1, (58, 3, 35), [], []),
   (.goto (-38), (61, 3, 36), [13], []),
   (.iconst 1, (64, 1, 37), [], []),
   (.ireturn, (65, 1, 38), [1], [])]]
def rw_K_leastSum : List (List xq_Row) := [
  [(.aload_n 0, (0, 1, 1), [], []),
   (.getfield 12, (1, 3, 2), [2, 3, 0, 296], [0]),
   (.getfield 100, (4, 3, 3), [2, 6, 3, 270], [3]),
   (.getfield 118, (7, 3, 4), [0, 4, 1, 214], [1]),
   (.istore_n 3, (10, 1, 5), [], []),
   (.aload_n 0, (11, 1, 6), [], []),
   (.getfield 12, (12, 3, 7), [2, 3, 0, 296], [0]),
   (.getfield 43, (15, 3, 8), [2, 6, 0, 260], [0]),
   (.getfield 158, (18, 3, 9), [2, 8, 3, 123], [3]),
   (.iload_n 2, (21, 1, 10), [], []),
   (.iaload, (22, 1, 11), [], []),
   (.iconst 5, (23, 1, 12), [], []),
   (.invokestatic 88, (24, 3, 13), [0, 2, 0, 0, 1, 689, 411, 0, 412, 80], []),
   (.istore 4, (27, 2, 14), [], []),
   (.iconst 0, (29, 1, 15), [], []),
   (.istore 5, (30, 2, 16), [], [])],
  [(.iload 5, (32, 2, 17), [], []),
   (.iload 4, (34, 2, 18), [], []),
   (.if_icmp .gt 20, (36, 3, 19), [28], []),
   (.aload_n 0, (39, 1, 20), [], []),
   (.getfield 35, (40, 3, 21), [2, 3, 6, 306], [6]),
   (.iload 5, (43, 2, 22), [], []),
   (.iload 5, (45, 2, 23), [], []),
   (.iload_n 3, (47, 1, 24), [], []),
   (.imul, (48, 1, 25), [0], []),
   (.iastore, (49, 1, 26), [], []),
   (.iinc 5 1, (50, 3, 27), [], []),
   (.goto (-21), (53, 3, 28), [16], []),
   (.iconst 0, (56, 1, 29), [], []),
   (.istore 5, (57, 2, 30), [], []),
   (.iload 5, (59, 2, 31), [], []),
   (.aload_n 0, (61, 1, 32), [], [])],
  [(.getfield 32, (62, 3, 33), [0, 3, 5, 305], [5]),
   (.if_icmp .ge 153, (65, 3, 34), [117], []),
   (.aload_n 0, (68, 1, 35), [], []),
   (.getfield 35, (69, 3, 36), [2, 3, 6, 306], [6]),
   (.iconst 0, (72, 1, 37), [], []),
   (.iaload, (73, 1, 38), [], []),
   (.istore 6, (74, 2, 39), [], []),
   (.aload_n 0, (76, 1, 40), [], []),
   (.getfield 35, (77, 3, 41), [2, 3, 6, 306], [6]),
   (.iconst 0, (80, 1, 42), [], []),
   (.iload 5, (81, 2, 43), [], []),
   (.iconst 1, (83, 1, 44), [], []),
   (.iadd, (84, 1, 45), [0], []),
   (.iload_n 3, (85, 1, 46), [], []),
   (.imul, (86, 1, 47), [0], []),
   (.iastore, (87, 1, 48), [], [])],
  [(.iconst 1, (88, 1, 49), [], []),
   (.istore 7, (89, 2, 50), [], []),
   (.iload 7, (91, 2, 51), [], []),
   (.iload 4, (93, 2, 52), [], []),
   (.if_icmp .gt 117, (95, 3, 53), [115], []),
   (.aload_n 0, (98, 1, 54), [], []),
   (.getfield 12, (99, 3, 55), [2, 3, 0, 296], [0]),
   (.getfield 43, (102, 3, 56), [2, 6, 0, 260], [0]),
   (.getfield 164, (105, 3, 57), [2, 8, 4, 126], [4]),
   (.iload_n 2, (108, 1, 58), [], []),
   (.iconst 5, (109, 1, 59), [], []),
   (.imul, (110, 1, 60), [0], []),
   (.iload 7, (111, 2, 61), [], []),
   (.iadd, (113, 1, 62), [0], []),
   (.iconst 1, (114, 1, 63), [], []),
   (.isub, (115, 1, 64), [0], [])],
  [(.iaload, (116, 1, 65), [], []),
   (.istore 8, (117, 2, 66), [], []),
   (.aload_n 0, (119, 1, 67), [], []),
   (.getfield 29, (120, 3, 68), [2, 3, 4, 304], [4]),
   (.iload 5, (123, 2, 69), [], []),
   (.iaload, (125, 1, 70), [], []),
   (.iload 8, (126, 2, 71), [], []),
   (.invokestatic 124, (128, 3, 72), [133, 2, 0, 0, 2, 694, 695, 0, 696, 69], []),
   (.ifCond .eq 7, (131, 3, 73), [75], []),
   (.iload_n 1, (134, 1, 74), [], []),
   (.goto 4, (135, 3, 75), [76], []),
   (.iload_n 3, (138, 1, 76), [], []),
   (.istore 9, (139, 2, 77), [], []),
   (.iload 6, (141, 2, 78), [], []),
   (.aload_n 0, (143, 1, 79), [], []),
   (.getfield 29, (144, 3, 80), [2, 3, 4, 304], [4])],
  [(.iload 5, (147, 2, 81), [], []),
   (.iaload, (149, 1, 82), [], []),
   (.iload 8, (150, 2, 83), [], []),
   (.if_icmp .ne 7, (152, 3, 84), [86], []),
   (.iconst 0, (155, 1, 85), [], []),
   (.goto 5, (156, 3, 86), [87], []),
   (.iload 9, (159, 2, 87), [], []),
   (.iadd, (161, 1, 88), [0], []),
   (.istore 10, (162, 2, 89), [], []),
   (.aload_n 0, (164, 1, 90), [], []),
   (.getfield 35, (165, 3, 91), [2, 3, 6, 306], [6]),
   (.iload 7, (168, 2, 92), [], []),
   (.iaload, (170, 1, 93), [], []),
   (.istore 6, (171, 2, 94), [], []),
   (.aload_n 0, (173, 1, 95), [], []),
   (.getfield 35, (174, 3, 96), [2, 3, 6, 306], [6])],
  [(.iload 7, (177, 2, 97), [], []),
   (.iload 10, (179, 2, 98), [], []),
   (.aload_n 0, (181, 1, 99), [], []),
   (.getfield 35, (182, 3, 100), [2, 3, 6, 306], [6]),
   (.iload 7, (185, 2, 101), [], []),
   (.iaload, (187, 1, 102), [], []),
   (.aload_n 0, (188, 1, 103), [], []),
   (.getfield 35, (189, 3, 104), [2, 3, 6, 306], [6]),
   (.iload 7, (192, 2, 105), [], []),
   (.iconst 1, (194, 1, 106), [], []),
   (.isub, (195, 1, 107), [0], []),
   (.iaload, (196, 1, 108), [], []),
   (.invokestatic 88, (197, 3, 109), [0, 2, 0, 0, 1, 689, 411, 0, 412, 80], []),
   (.iload_n 3, (200, 1, 110), [], []),
   (.iadd, (201, 1, 111), [0], []),
   (.invokestatic 88, (202, 3, 112), [0, 2, 0, 0, 1, 689, 411, 0, 412, 80], [])],
  [(.iastore, (205, 1, 113), [], []),
   (.iinc 7 1, (206, 3, 114), [], []),
   (.goto (-118), (209, 3, 115), [50], []),
   (.iinc 5 1, (212, 3, 116), [], []),
   (.goto (-156), (215, 3, 117), [30], []),
   (.iload 4, (218, 2, 118), [], []),
   (.ifCond .ge 7, (220, 3, 119), [121], []),
   (.iconst 0, (223, 1, 120), [], []),
   (.goto 10, (224, 3, 121), [125], []),
   (.aload_n 0, (227, 1, 122), [], []),
   (.getfield 35, (228, 3, 123), [2, 3, 6, 306], [6]),
   (.iload 4, (231, 2, 124), [], []),
   (.iaload, (233, 1, 125), [], []),
   (.ireturn, (234, 1, 126), [0], [])]]
def rw_P_init : List (List xq_Row) := [
  [(.aload_n 0, (0, 1, 1), [], []),
   (.invokespecial 3, (1, 3, 2), [207], []),
   (.aload_n 0, (4, 1, 3), [], []),
   (.bipush 12, (5, 2, 4), [], []),
   (.putfield 11, (7, 3, 5), [0, 4, 0, 208, 0], [0]),
   (.aload_n 0, (10, 1, 6), [], []),
   (.bipush 10, (11, 2, 7), [], []),
   (.putfield 15, (13, 3, 8), [0, 4, 1, 212, 0], [1]),
   (.aload_n 0, (16, 1, 9), [], []),
   (.bipush 10, (17, 2, 10), [], []),
   (.newarray .int, (19, 2, 11), [0], []),
   (.putfield 18, (21, 3, 12), [2, 4, 2, 216, 1], [2]),
   (.aload_n 0, (24, 1, 13), [], []),
   (.bipush 10, (25, 2, 14), [], []),
   (.newarray .int, (27, 2, 15), [0], []),
   (.putfield 22, (29, 3, 16), [2, 4, 3, 217, 1], [3])],
  [(.aload_n 0, (32, 1, 17), [], []),
   (.iconst 0, (33, 1, 18), [], []),
   (.putfield 25, (34, 3, 19), [0, 4, 4, 218, 0], [4]),
   (.aload_n 0, (37, 1, 20), [], []),
   (.bipush 100, (38, 2, 21), [], []),
   (.newarray .int, (40, 2, 22), [0], []),
   (.putfield 28, (42, 3, 23), [2, 4, 5, 219, 1], [5]),
   (.aload_n 0, (45, 1, 24), [], []),
   (.iconst 0, (46, 1, 25), [], []),
   (.putfield 31, (47, 3, 26), [0, 4, 6, 220, 0], [6]),
   (.return_, (50, 1, 27), [], [])]]
def rw_P_clear : List (List xq_Row) := [
  [(.aload_n 0, (0, 1, 1), [], []),
   (.bipush 12, (1, 2, 2), [], []),
   (.putfield 11, (3, 3, 3), [0, 4, 0, 208, 0], [0]),
   (.aload_n 0, (6, 1, 4), [], []),
   (.bipush 10, (7, 2, 5), [], []),
   (.putfield 15, (9, 3, 6), [0, 4, 1, 212, 0], [1]),
   (.aload_n 0, (12, 1, 7), [], []),
   (.iconst 0, (13, 1, 8), [], []),
   (.putfield 25, (14, 3, 9), [0, 4, 4, 218, 0], [4]),
   (.aload_n 0, (17, 1, 10), [], []),
   (.iconst 0, (18, 1, 11), [], []),
   (.putfield 31, (19, 3, 12), [0, 4, 6, 220, 0], [6]),
   (.return_, (22, 1, 13), [], [])]]
def rw_P_put : List (List xq_Row) := [
  [(.aload_n 0, (0, 1, 1), [], []),
   (.getfield 31, (1, 3, 2), [0, 4, 6, 220], [6]),
   (.ifCond .lt 32, (4, 3, 3), [19], []),
   (.aload_n 0, (7, 1, 4), [], []),
   (.getfield 31, (8, 3, 5), [0, 4, 6, 220], [6]),
   (.bipush 100, (11, 2, 6), [], []),
   (.if_icmp .ge 23, (13, 3, 7), [19], []),
   (.aload_n 0, (16, 1, 8), [], []),
   (.getfield 28, (17, 3, 9), [2, 4, 5, 219], [5]),
   (.aload_n 0, (20, 1, 10), [], []),
   (.getfield 31, (21, 3, 11), [0, 4, 6, 220], [6]),
   (.iload_n 1, (24, 1, 12), [], []),
   (.iastore, (25, 1, 13), [], []),
   (.aload_n 0, (26, 1, 14), [], []),
   (.dup, (27, 1, 15), [], []),
   (.getfield 31, (28, 3, 16), [0, 4, 6, 220], [6])],
  [(.iconst 1, (31, 1, 17), [], []),
   (.iadd, (32, 1, 18), [0], []),
   (.putfield 31, (33, 3, 19), [0, 4, 6, 220, 0], [6]),
   (.return_, (36, 1, 20), [], [])]]
def rw_P_close : List (List xq_Row) := [
  [(.aload_n 0, (0, 1, 1), [], []),
   (.getfield 25, (1, 3, 2), [0, 4, 4, 218], [4]),
   (.ifCond .lt 45, (4, 3, 3), [26], []),
   (.aload_n 0, (7, 1, 4), [], []),
   (.getfield 25, (8, 3, 5), [0, 4, 4, 218], [4]),
   (.bipush 10, (11, 2, 6), [], []),
   (.if_icmp .ge 36, (13, 3, 7), [26], []),
   (.aload_n 0, (16, 1, 8), [], []),
   (.getfield 18, (17, 3, 9), [2, 4, 2, 216], [2]),
   (.aload_n 0, (20, 1, 10), [], []),
   (.getfield 25, (21, 3, 11), [0, 4, 4, 218], [4]),
   (.iload_n 1, (24, 1, 12), [], []),
   (.iastore, (25, 1, 13), [], []),
   (.aload_n 0, (26, 1, 14), [], []),
   (.getfield 22, (27, 3, 15), [2, 4, 3, 217], [3]),
   (.aload_n 0, (30, 1, 16), [], [])],
  [(.getfield 25, (31, 3, 17), [0, 4, 4, 218], [4]),
   (.aload_n 0, (34, 1, 18), [], []),
   (.getfield 31, (35, 3, 19), [0, 4, 6, 220], [6]),
   (.iastore, (38, 1, 20), [], []),
   (.aload_n 0, (39, 1, 21), [], []),
   (.dup, (40, 1, 22), [], []),
   (.getfield 25, (41, 3, 23), [0, 4, 4, 218], [4]),
   (.iconst 1, (44, 1, 24), [], []),
   (.iadd, (45, 1, 25), [0], []),
   (.putfield 25, (46, 3, 26), [0, 4, 4, 218, 0], [4]),
   (.return_, (49, 1, 27), [], [])]]
def rw_P_extra : List (List xq_Row) := [
  [(.iconst 0, (0, 1, 1), [], []),
   (.istore_n 2, (1, 1, 2), [], []),
   (.iconst 0, (2, 1, 3), [], []),
   (.istore_n 3, (3, 1, 4), [], []),
   (.iconst 0, (4, 1, 5), [], []),
   (.istore 4, (5, 2, 6), [], []),
   (.iload 4, (7, 2, 7), [], []),
   (.aload_n 0, (9, 1, 8), [], []),
   (.getfield 25, (10, 3, 9), [0, 4, 4, 218], [4]),
   (.if_icmp .ge 43, (13, 3, 10), [33], []),
   (.aload_n 0, (16, 1, 11), [], []),
   (.iload_n 3, (17, 1, 12), [], []),
   (.aload_n 0, (18, 1, 13), [], []),
   (.getfield 22, (19, 3, 14), [2, 4, 3, 217], [3]),
   (.iload 4, (22, 2, 15), [], []),
   (.iaload, (24, 1, 16), [], [])],
  [(.aload_n 1, (25, 1, 17), [], []),
   (.invokevirtual 34, (26, 3, 18), [49, 3, 0, 4, 0, 708, 710, 16, 711, 75], []),
   (.ifCond .eq 13, (29, 3, 19), [26], []),
   (.iload_n 2, (32, 1, 20), [], []),
   (.aload_n 0, (33, 1, 21), [], []),
   (.getfield 18, (34, 3, 22), [2, 4, 2, 216], [2]),
   (.iload 4, (37, 2, 23), [], []),
   (.iaload, (39, 1, 24), [], []),
   (.iadd, (40, 1, 25), [0], []),
   (.istore_n 2, (41, 1, 26), [], []),
   (.aload_n 0, (42, 1, 27), [], []),
   (.getfield 22, (43, 3, 28), [2, 4, 3, 217], [3]),
   (.iload 4, (46, 2, 29), [], []),
   (.iaload, (48, 1, 30), [], []),
   (.istore_n 3, (49, 1, 31), [], []),
   (.iinc 4 1, (50, 3, 32), [], [])],
  [(.goto (-46), (53, 3, 33), [6], []),
   (.iload_n 2, (56, 1, 34), [], []),
   (.ireturn, (57, 1, 35), [0], [])]]
def rw_P_holds : List (List xq_Row) := [
  [(.iconst 0, (0, 1, 1), [], []),
   (.istore 4, (1, 2, 2), [], []),
   (.iload_n 1, (3, 1, 3), [], []),
   (.istore 5, (4, 2, 4), [], []),
   (.iload 5, (6, 2, 5), [], []),
   (.iload_n 2, (8, 1, 6), [], []),
   (.if_icmp .ge 108, (9, 3, 7), [63], []),
   (.iload 5, (12, 2, 8), [], []),
   (.bipush 100, (14, 2, 9), [], []),
   (.if_icmp .ge 101, (16, 3, 10), [63], []),
   (.aload_n 0, (19, 1, 11), [], []),
   (.getfield 28, (20, 3, 12), [2, 4, 5, 219], [5]),
   (.iload 5, (23, 2, 13), [], []),
   (.iaload, (25, 1, 14), [], []),
   (.istore 6, (26, 2, 15), [], []),
   (.iload 4, (28, 2, 16), [], [])],
  [(.iconst 1, (30, 1, 17), [], []),
   (.iand, (31, 1, 18), [], []),
   (.istore 7, (32, 2, 19), [], []),
   (.iload 6, (34, 2, 20), [], []),
   (.iconst (-1), (36, 1, 21), [], []),
   (.if_icmp .ne 12, (37, 3, 22), [27], []),
   (.iload 4, (40, 2, 23), [], []),
   (.iconst 1, (42, 1, 24), [], []),
   (.ixor, (43, 1, 25), [], []),
   (.istore 4, (44, 2, 26), [], []),
   (.goto 65, (46, 3, 27), [61], []),
   (.iload 6, (49, 2, 28), [], []),
   (.bipush (-2), (51, 2, 29), [], []),
   (.if_icmp .ne 18, (53, 3, 30), [39], []),
   (.iload 4, (56, 2, 31), [], []),
   (.iconst 1, (58, 1, 32), [], [])],
  [(.ishr, (59, 1, 33), [], []),
   (.iload 7, (60, 2, 34), [], []),
   (.bipush (-2), (62, 2, 35), [], []),
   (.ior, (64, 1, 36), [], []),
   (.iand, (65, 1, 37), [], []),
   (.istore 4, (66, 2, 38), [], []),
   (.goto 43, (68, 3, 39), [61], []),
   (.iload 6, (71, 2, 40), [], []),
   (.bipush (-3), (73, 2, 41), [], []),
   (.if_icmp .ne 15, (75, 3, 42), [49], []),
   (.iload 4, (78, 2, 43), [], []),
   (.iconst 1, (80, 1, 44), [], []),
   (.ishr, (81, 1, 45), [], []),
   (.iload 7, (82, 2, 46), [], []),
   (.ior, (84, 1, 47), [], []),
   (.istore 4, (85, 2, 48), [], [])],
  [(.goto 24, (87, 3, 49), [61], []),
   (.iload 4, (90, 2, 50), [], []),
   (.iconst 1, (92, 1, 51), [], []),
   (.ishl, (93, 1, 52), [], []),
   (.iload 6, (94, 2, 53), [], []),
   (.aload_n 3, (96, 1, 54), [], []),
   (.invokestatic 38, (97, 3, 55), [50, 2, 0, 0, 1, 712, 713, 0, 714, 75], []),
   (.ifCond .eq 7, (100, 3, 56), [58], []),
   (.iconst 1, (103, 1, 57), [], []),
   (.goto 4, (104, 3, 58), [59], []),
   (.iconst 0, (107, 1, 59), [], []),
   (.ior, (108, 1, 60), [], []),
   (.istore 4, (109, 2, 61), [], []),
   (.iinc 5 1, (111, 3, 62), [], []),
   (.goto (-108), (114, 3, 63), [4], []),
   (.iload 4, (117, 2, 64), [], [])],
  [(.iconst 1, (119, 1, 65), [], []),
   (.iand, (120, 1, 66), [], []),
   (.iconst 1, (121, 1, 67), [], []),
   (.if_icmp .ne 7, (122, 3, 68), [70], []),
   (.iconst 1, (125, 1, 69), [], []),
   (.goto 4, (126, 3, 70), [71], []),
   (.iconst 0, (129, 1, 71), [], []),
   (.ireturn, (130, 1, 72), [1], [])]]
def rw_P_passes : List (List xq_Row) := [
  [(.iload_n 0, (0, 1, 1), [], []),
   (.sipush 300, (1, 3, 2), [], []),
   (.idiv, (4, 1, 3), [], []),
   (.istore_n 2, (5, 1, 4), [], []),
   (.iload_n 2, (6, 1, 5), [], []),
   (.ifCond .lt 9, (7, 3, 6), [10], []),
   (.iload_n 2, (10, 1, 7), [], []),
   (.aload_n 1, (11, 1, 8), [], []),
   (.arraylength, (12, 1, 9), [], []),
   (.if_icmp .lt 5, (13, 3, 10), [12], []),
   (.iconst 0, (16, 1, 11), [], []),
   (.ireturn, (17, 1, 12), [1], []),
   (.iload_n 0, (18, 1, 13), [], []),
   (.bipush 100, (19, 2, 14), [], []),
   (.irem, (21, 1, 15), [], []),
   (.istore_n 3, (22, 1, 16), [], [])],
  [(.iload_n 0, (23, 1, 17), [], []),
   (.bipush 100, (24, 2, 18), [], []),
   (.idiv, (26, 1, 19), [], []),
   (.iconst 3, (27, 1, 20), [], []),
   (.irem, (28, 1, 21), [], []),
   (.lookupswitch 53 #[(0, 27), (1, 40)], (29, 27, 22), [40, 22, 31], [0, 1]),
   (.aload_n 1, (56, 1, 23), [], []),
   (.iload_n 2, (57, 1, 24), [], []),
   (.iaload, (58, 1, 25), [], []),
   (.iload_n 3, (59, 1, 26), [], []),
   (.if_icmp .ge 7, (60, 3, 27), [29], []),
   (.iconst 1, (63, 1, 28), [], []),
   (.goto 4, (64, 3, 29), [30], []),
   (.iconst 0, (67, 1, 30), [], []),
   (.ireturn, (68, 1, 31), [1], []),
   (.aload_n 1, (69, 1, 32), [], [])],
  [(.iload_n 2, (70, 1, 33), [], []),
   (.iaload, (71, 1, 34), [], []),
   (.iload_n 3, (72, 1, 35), [], []),
   (.if_icmp .ne 7, (73, 3, 36), [38], []),
   (.iconst 1, (76, 1, 37), [], []),
   (.goto 4, (77, 3, 38), [39], []),
   (.iconst 0, (80, 1, 39), [], []),
   (.ireturn, (81, 1, 40), [1], []),
   (.aload_n 1, (82, 1, 41), [], []),
   (.iload_n 2, (83, 1, 42), [], []),
   (.iaload, (84, 1, 43), [], []),
   (.iload_n 3, (85, 1, 44), [], []),
   (.if_icmp .le 7, (86, 3, 45), [47], []),
   (.iconst 1, (89, 1, 46), [], []),
   (.goto 4, (90, 3, 47), [48], []),
   (.iconst 0, (93, 1, 48), [], [])],
  [(.ireturn, (94, 1, 49), [1], [])]]
def rw_P_copy : List (List xq_Row) := [
  [(.aload_n 0, (0, 1, 1), [], []),
   (.aload_n 1, (1, 1, 2), [], []),
   (.getfield 11, (2, 3, 3), [0, 4, 0, 208], [0]),
   (.putfield 11, (5, 3, 4), [0, 4, 0, 208, 0], [0]),
   (.aload_n 0, (8, 1, 5), [], []),
   (.aload_n 1, (9, 1, 6), [], []),
   (.getfield 15, (10, 3, 7), [0, 4, 1, 212], [1]),
   (.putfield 15, (13, 3, 8), [0, 4, 1, 212, 0], [1]),
   (.aload_n 1, (16, 1, 9), [], []),
   (.getfield 18, (17, 3, 10), [2, 4, 2, 216], [2]),
   (.aload_n 0, (20, 1, 11), [], []),
   (.getfield 18, (21, 3, 12), [2, 4, 2, 216], [2]),
   (.invokestatic 42, (24, 3, 13), [127, 2, 0, 0, 2, 579, 580, 0, 581, 69], []),
   (.aload_n 1, (27, 1, 14), [], []),
   (.getfield 22, (28, 3, 15), [2, 4, 3, 217], [3]),
   (.aload_n 0, (31, 1, 16), [], [])],
  [(.getfield 22, (32, 3, 17), [2, 4, 3, 217], [3]),
   (.invokestatic 42, (35, 3, 18), [127, 2, 0, 0, 2, 579, 580, 0, 581, 69], []),
   (.aload_n 0, (38, 1, 19), [], []),
   (.aload_n 1, (39, 1, 20), [], []),
   (.getfield 25, (40, 3, 21), [0, 4, 4, 218], [4]),
   (.putfield 25, (43, 3, 22), [0, 4, 4, 218, 0], [4]),
   (.aload_n 1, (46, 1, 23), [], []),
   (.getfield 28, (47, 3, 24), [2, 4, 5, 219], [5]),
   (.aload_n 0, (50, 1, 25), [], []),
   (.getfield 28, (51, 3, 26), [2, 4, 5, 219], [5]),
   (.invokestatic 42, (54, 3, 27), [127, 2, 0, 0, 2, 579, 580, 0, 581, 69], []),
   (.aload_n 0, (57, 1, 28), [], []),
   (.aload_n 1, (58, 1, 29), [], []),
   (.getfield 31, (59, 3, 30), [0, 4, 6, 220], [6]),
   (.putfield 31, (62, 3, 31), [0, 4, 6, 220, 0], [6]),
   (.return_, (65, 1, 32), [], [])]]
def rw_R_init : List (List xq_Row) := [
  [(.aload_n 0, (0, 1, 1), [], []),
   (.invokespecial 3, (1, 3, 2), [332], []),
   (.aload_n 0, (4, 1, 3), [], []),
   (.new 9, (5, 3, 4), [4, 333, 203, 75], []),
   (.dup, (8, 1, 5), [], []),
   (.invokespecial 11, (9, 3, 6), [44, 0, 3, 0, 3, 334, 205, 0, 206, 75], []),
   (.putfield 12, (12, 3, 7), [2, 5, 0, 335, 1], [0]),
   (.aload_n 0, (15, 1, 8), [], []),
   (.iconst 0, (16, 1, 9), [], []),
   (.newarray .int, (17, 2, 10), [0], []),
   (.putfield 18, (19, 3, 11), [3, 5, 1, 337, 0], [1]),
   (.aload_n 0, (22, 1, 12), [], []),
   (.iconst 0, (23, 1, 13), [], []),
   (.putfield 22, (24, 3, 14), [0, 5, 2, 338, 0], [2]),
   (.aload_n 0, (27, 1, 15), [], []),
   (.iconst 0, (28, 1, 16), [], [])],
  [(.putfield 26, (29, 3, 17), [0, 5, 3, 339, 0], [3]),
   (.return_, (32, 1, 18), [], [])]]
def rw_R_faultOf : List (List xq_Row) := [
  [(.aload_n 0, (0, 1, 1), [], []),
   (.aload_n 1, (1, 1, 2), [], []),
   (.putfield 18, (2, 3, 3), [3, 5, 1, 337, 0], [1]),
   (.aload_n 0, (5, 1, 4), [], []),
   (.iload_n 2, (6, 1, 5), [], []),
   (.aload_n 1, (7, 1, 6), [], []),
   (.arraylength, (8, 1, 7), [], []),
   (.invokestatic 29, (9, 3, 8), [0, 2, 0, 0, 1, 410, 411, 0, 412, 80], []),
   (.putfield 22, (12, 3, 9), [0, 5, 2, 338, 0], [2]),
   (.aload_n 0, (15, 1, 10), [], []),
   (.iconst 0, (16, 1, 11), [], []),
   (.putfield 26, (17, 3, 12), [0, 5, 3, 339, 0], [3]),
   (.aload_n 0, (20, 1, 13), [], []),
   (.getfield 12, (21, 3, 14), [2, 5, 0, 335], [0]),
   (.invokevirtual 35, (24, 3, 15), [45, 0, 0, 4, 0, 413, 414, 415, 416, 75], []),
   (.iconst 1, (27, 1, 16), [], [])],
  [(.istore_n 3, (28, 1, 17), [], []),
   (.iload_n 3, (29, 1, 18), [], []),
   (.bipush 10, (30, 2, 19), [], []),
   (.if_icmp .gt 54, (32, 3, 20), [45], []),
   (.aload_n 0, (35, 1, 21), [], []),
   (.invokevirtual 38, (36, 3, 22), [57, 0, 0, 5, 0, 417, 419, 0, 420, 77], []),
   (.ifCond .ne 8, (39, 3, 23), [26], []),
   (.aload_n 0, (42, 1, 24), [], []),
   (.getfield 26, (43, 3, 25), [0, 5, 3, 339], [3]),
   (.ireturn, (46, 1, 26), [0], []),
   (.aload_n 0, (47, 1, 27), [], []),
   (.getfield 26, (48, 3, 28), [0, 5, 3, 339], [3]),
   (.aload_n 0, (51, 1, 29), [], []),
   (.getfield 22, (52, 3, 30), [0, 5, 2, 338], [2]),
   (.if_icmp .lt 5, (55, 3, 31), [33], []),
   (.iconst (-1), (58, 1, 32), [], [])],
  [(.ireturn, (59, 1, 33), [0], []),
   (.iload_n 3, (60, 1, 34), [], []),
   (.bipush 10, (61, 2, 35), [], []),
   (.if_icmp .eq 12, (63, 3, 36), [40], []),
   (.aload_n 0, (66, 1, 37), [], []),
   (.bipush 59, (67, 2, 38), [], []),
   (.invokevirtual 42, (69, 3, 39), [55, 1, 0, 5, 0, 484, 486, 3, 487, 77], []),
   (.ifCond .ne 8, (72, 3, 40), [43], []),
   (.aload_n 0, (75, 1, 41), [], []),
   (.getfield 26, (76, 3, 42), [0, 5, 3, 339], [3]),
   (.ireturn, (79, 1, 43), [0], []),
   (.iinc 3 1, (80, 3, 44), [], []),
   (.goto (-54), (83, 3, 45), [17], []),
   (.aload_n 0, (86, 1, 46), [], []),
   (.getfield 26, (87, 3, 47), [0, 5, 3, 339], [3]),
   (.ireturn, (90, 1, 48), [0], [])]]
def rw_R_peek : List (List xq_Row) := [
  [(.aload_n 0, (0, 1, 1), [], []),
   (.getfield 26, (1, 3, 2), [0, 5, 3, 339], [3]),
   (.ifCond .lt 26, (4, 3, 3), [14], []),
   (.aload_n 0, (7, 1, 4), [], []),
   (.getfield 26, (8, 3, 5), [0, 5, 3, 339], [3]),
   (.aload_n 0, (11, 1, 6), [], []),
   (.getfield 22, (12, 3, 7), [0, 5, 2, 338], [2]),
   (.if_icmp .ge 15, (15, 3, 8), [14], []),
   (.aload_n 0, (18, 1, 9), [], []),
   (.getfield 18, (19, 3, 10), [3, 5, 1, 337], [1]),
   (.aload_n 0, (22, 1, 11), [], []),
   (.getfield 26, (23, 3, 12), [0, 5, 3, 339], [3]),
   (.iaload, (26, 1, 13), [], []),
   (.goto 4, (27, 3, 14), [15], []),
   (.iconst (-1), (30, 1, 15), [], []),
   (.ireturn, (31, 1, 16), [0], [])]]
def rw_R_readSign : List (List xq_Row) := [
  [(.aload_n 0, (0, 1, 1), [], []),
   (.invokevirtual 46, (1, 3, 2), [54, 0, 0, 5, 0, 421, 423, 1, 424, 77], []),
   (.iload_n 1, (4, 1, 3), [], []),
   (.if_icmp .eq 5, (5, 3, 4), [6], []),
   (.iconst 0, (8, 1, 5), [], []),
   (.ireturn, (9, 1, 6), [1], []),
   (.aload_n 0, (10, 1, 7), [], []),
   (.dup, (11, 1, 8), [], []),
   (.getfield 26, (12, 3, 9), [0, 5, 3, 339], [3]),
   (.iconst 1, (15, 1, 10), [], []),
   (.iadd, (16, 1, 11), [0], []),
   (.putfield 26, (17, 3, 12), [0, 5, 3, 339, 0], [3]),
   (.iconst 1, (20, 1, 13), [], []),
   (.ireturn, (21, 1, 14), [1], [])]]
def rw_R_readName : List (List xq_Row) := [
  [(.iconst 0, (0, 1, 1), [], []),
   (.istore_n 2, (1, 1, 2), [], []),
   (.iload_n 2, (2, 1, 3), [], []),
   (.aload_n 1, (3, 1, 4), [], []),
   (.invokevirtual 50, (4, 3, 5), [4, 0, 0, 99, 0, 436, 437, 438, 439, 81], []),
   (.if_icmp .ge 23, (7, 3, 6), [16], []),
   (.aload_n 0, (10, 1, 7), [], []),
   (.aload_n 1, (11, 1, 8), [], []),
   (.iload_n 2, (12, 1, 9), [], []),
   (.invokevirtual 55, (13, 3, 10), [7, 1, 0, 99, 0, 446, 447, 448, 449, 81], []),
   (.invokevirtual 42, (16, 3, 11), [55, 1, 0, 5, 0, 484, 486, 3, 487, 77], []),
   (.ifCond .ne 5, (19, 3, 12), [14], []),
   (.iconst 0, (22, 1, 13), [], []),
   (.ireturn, (23, 1, 14), [1], []),
   (.iinc 2 1, (24, 3, 15), [], []),
   (.goto (-25), (27, 3, 16), [2], [])],
  [(.aload_n 0, (30, 1, 17), [], []),
   (.bipush 32, (31, 2, 18), [], []),
   (.invokevirtual 42, (33, 3, 19), [55, 1, 0, 5, 0, 484, 486, 3, 487, 77], []),
   (.ireturn, (36, 1, 20), [1], [])]]
def rw_R_readClause : List (List xq_Row) := [
  [(.aload_n 0, (0, 1, 1), [], []),
   (.invokevirtual 46, (1, 3, 2), [54, 0, 0, 5, 0, 421, 423, 1, 424, 77], []),
   (.istore_n 1, (4, 1, 3), [], []),
   (.aload_n 0, (5, 1, 4), [], []),
   (.iload_n 1, (6, 1, 5), [], []),
   (.invokestatic 59, (7, 3, 6), [58, 1, 0, 0, 1, 425, 426, 0, 427, 77], []),
   (.invokevirtual 63, (10, 3, 7), [56, 1, 0, 5, 0, 432, 434, 2, 435, 77], []),
   (.ifCond .eq 10, (13, 3, 8), [11], []),
   (.aload_n 0, (16, 1, 9), [], []),
   (.invokevirtual 67, (17, 3, 10), [59, 0, 0, 5, 0, 488, 490, 4, 491, 77], []),
   (.goto 4, (20, 3, 11), [12], []),
   (.iconst (-1), (23, 1, 12), [], []),
   (.istore_n 2, (24, 1, 13), [], []),
   (.iload_n 2, (25, 1, 14), [], []),
   (.ifCond .ge 5, (26, 3, 15), [17], []),
   (.iconst 0, (29, 1, 16), [], [])],
  [(.ireturn, (30, 1, 17), [1], []),
   (.iload_n 1, (31, 1, 18), [], []),
   (.bipush 108, (32, 2, 19), [], []),
   (.if_icmp .ne 13, (34, 3, 20), [26], []),
   (.aload_n 0, (37, 1, 21), [], []),
   (.getfield 12, (38, 3, 22), [2, 5, 0, 335], [0]),
   (.iload_n 2, (41, 1, 23), [], []),
   (.putfield 70, (42, 3, 24), [0, 4, 0, 210, 0], [0]),
   (.iconst 1, (45, 1, 25), [], []),
   (.ireturn, (46, 1, 26), [1], []),
   (.iload_n 1, (47, 1, 27), [], []),
   (.bipush 115, (48, 2, 28), [], []),
   (.if_icmp .ne 13, (50, 3, 29), [35], []),
   (.aload_n 0, (53, 1, 30), [], []),
   (.getfield 12, (54, 3, 31), [2, 5, 0, 335], [0]),
   (.iload_n 2, (57, 1, 32), [], [])],
  [(.putfield 73, (58, 3, 33), [0, 4, 1, 213, 0], [1]),
   (.iconst 1, (61, 1, 34), [], []),
   (.ireturn, (62, 1, 35), [1], []),
   (.aload_n 0, (63, 1, 36), [], []),
   (.bipush 32, (64, 2, 37), [], []),
   (.invokevirtual 42, (66, 3, 38), [55, 1, 0, 5, 0, 484, 486, 3, 487, 77], []),
   (.ifCond .eq 11, (69, 3, 39), [43], []),
   (.aload_n 0, (72, 1, 40), [], []),
   (.iconst 0, (73, 1, 41), [], []),
   (.invokevirtual 76, (74, 3, 42), [60, 1, 0, 5, 0, 492, 494, 5, 495, 77], []),
   (.ifCond .ne 5, (77, 3, 43), [45], []),
   (.iconst 0, (80, 1, 44), [], []),
   (.ireturn, (81, 1, 45), [1], []),
   (.aload_n 0, (82, 1, 46), [], []),
   (.getfield 12, (83, 3, 47), [2, 5, 0, 335], [0]),
   (.iload_n 1, (86, 1, 48), [], [])],
  [(.bipush 100, (87, 2, 49), [], []),
   (.if_icmp .ne 7, (89, 3, 50), [52], []),
   (.iload_n 2, (92, 1, 51), [], []),
   (.goto 5, (93, 3, 52), [54], []),
   (.iload_n 2, (96, 1, 53), [], []),
   (.ineg, (97, 1, 54), [0], []),
   (.invokevirtual 79, (98, 3, 55), [47, 1, 0, 4, 0, 571, 572, 573, 574, 75], []),
   (.iconst 1, (101, 1, 56), [], []),
   (.ireturn, (102, 1, 57), [1], [])]]
def rw_R_nameBy : List (List xq_Row) := [
  [(.iload_n 0, (0, 1, 1), [], []),
   (.lookupswitch 44 #[(100, 41), (108, 35), (115, 38)], (1, 35, 2), [8, 6, 2, 4], [100, 108, 115]),
   (.ldc 83, (36, 2, 3), [1, 0, 0], []),
   (.areturn, (38, 1, 4), [], []),
   (.ldc 84, (39, 2, 5), [1, 1, 1], []),
   (.areturn, (41, 1, 6), [], []),
   (.ldc 85, (42, 2, 7), [1, 2, 2], []),
   (.areturn, (44, 1, 8), [], []),
   (.ldc 87, (45, 2, 9), [1, 3, 3], []),
   (.areturn, (47, 1, 10), [], [])]]
def rw_R_readNumber : List (List xq_Row) := [
  [(.aload_n 0, (0, 1, 1), [], []),
   (.invokevirtual 46, (1, 3, 2), [54, 0, 0, 5, 0, 421, 423, 1, 424, 77], []),
   (.bipush 48, (4, 2, 3), [], []),
   (.isub, (6, 1, 4), [0], []),
   (.istore_n 1, (7, 1, 5), [], []),
   (.iload_n 1, (8, 1, 6), [], []),
   (.ifCond .lt 9, (9, 3, 7), [10], []),
   (.iload_n 1, (12, 1, 8), [], []),
   (.bipush 9, (13, 2, 9), [], []),
   (.if_icmp .le 5, (15, 3, 10), [12], []),
   (.iconst (-1), (18, 1, 11), [], []),
   (.ireturn, (19, 1, 12), [0], []),
   (.aload_n 0, (20, 1, 13), [], []),
   (.dup, (21, 1, 14), [], []),
   (.getfield 26, (22, 3, 15), [0, 5, 3, 339], [3]),
   (.iconst 1, (25, 1, 16), [], [])],
  [(.iadd, (26, 1, 17), [0], []),
   (.putfield 26, (27, 3, 18), [0, 5, 3, 339, 0], [3]),
   (.aload_n 0, (30, 1, 19), [], []),
   (.invokevirtual 46, (31, 3, 20), [54, 0, 0, 5, 0, 421, 423, 1, 424, 77], []),
   (.bipush 48, (34, 2, 21), [], []),
   (.isub, (36, 1, 22), [0], []),
   (.istore_n 2, (37, 1, 23), [], []),
   (.iload_n 1, (38, 1, 24), [], []),
   (.ifCond .eq 13, (39, 3, 25), [30], []),
   (.iload_n 2, (42, 1, 26), [], []),
   (.ifCond .lt 9, (43, 3, 27), [30], []),
   (.iload_n 2, (46, 1, 28), [], []),
   (.bipush 9, (47, 2, 29), [], []),
   (.if_icmp .le 5, (49, 3, 30), [32], []),
   (.iload_n 1, (52, 1, 31), [], []),
   (.ireturn, (53, 1, 32), [0], [])],
  [(.aload_n 0, (54, 1, 33), [], []),
   (.dup, (55, 1, 34), [], []),
   (.getfield 26, (56, 3, 35), [0, 5, 3, 339], [3]),
   (.iconst 1, (59, 1, 36), [], []),
   (.iadd, (60, 1, 37), [0], []),
   (.putfield 26, (61, 3, 38), [0, 5, 3, 339, 0], [3]),
   (.iload_n 1, (64, 1, 39), [], []),
   (.bipush 10, (65, 2, 40), [], []),
   (.imul, (67, 1, 41), [0], []),
   (.iload_n 2, (68, 1, 42), [], []),
   (.iadd, (69, 1, 43), [0], []),
   (.ireturn, (70, 1, 44), [0], [])]]
def rw_R_readEither : List (List xq_Row) := [
  [(.iconst 0, (0, 1, 1), [], []),
   (.istore_n 2, (1, 1, 2), [], []),
   (.iload_n 2, (2, 1, 3), [], []),
   (.bipush 100, (3, 2, 4), [], []),
   (.if_icmp .ge 83, (5, 3, 5), [44], []),
   (.iconst 0, (8, 1, 6), [], []),
   (.istore_n 3, (9, 1, 7), [], []),
   (.iload_n 3, (10, 1, 8), [], []),
   (.ifCond .eq 18, (11, 3, 9), [16], []),
   (.iload_n 3, (14, 1, 10), [], []),
   (.bipush 100, (15, 2, 11), [], []),
   (.if_icmp .ge 41, (17, 3, 12), [30], []),
   (.aload_n 0, (20, 1, 13), [], []),
   (.bipush 38, (21, 2, 14), [], []),
   (.invokevirtual 42, (23, 3, 15), [55, 1, 0, 5, 0, 484, 486, 3, 487, 77], []),
   (.ifCond .eq 32, (26, 3, 16), [30], [])],
  [(.aload_n 0, (29, 1, 17), [], []),
   (.iload_n 1, (30, 1, 18), [], []),
   (.invokevirtual 89, (31, 3, 19), [61, 1, 0, 5, 0, 496, 498, 6, 499, 77], []),
   (.ifCond .ne 5, (34, 3, 20), [22], []),
   (.iconst 0, (37, 1, 21), [], []),
   (.ireturn, (38, 1, 22), [1], []),
   (.iload_n 3, (39, 1, 23), [], []),
   (.ifCond .le 12, (40, 3, 24), [28], []),
   (.aload_n 0, (43, 1, 25), [], []),
   (.getfield 12, (44, 3, 26), [2, 5, 0, 335], [0]),
   (.bipush (-2), (47, 2, 27), [], []),
   (.invokevirtual 92, (49, 3, 28), [46, 1, 0, 4, 0, 567, 568, 569, 570, 75], []),
   (.iinc 3 1, (52, 3, 29), [], []),
   (.goto (-45), (55, 3, 30), [7], []),
   (.iload_n 2, (58, 1, 31), [], []),
   (.ifCond .le 12, (59, 3, 32), [36], [])],
  [(.aload_n 0, (62, 1, 33), [], []),
   (.getfield 12, (63, 3, 34), [2, 5, 0, 335], [0]),
   (.bipush (-3), (66, 2, 35), [], []),
   (.invokevirtual 92, (68, 3, 36), [46, 1, 0, 4, 0, 567, 568, 569, 570, 75], []),
   (.aload_n 0, (71, 1, 37), [], []),
   (.bipush 124, (72, 2, 38), [], []),
   (.invokevirtual 42, (74, 3, 39), [55, 1, 0, 5, 0, 484, 486, 3, 487, 77], []),
   (.ifCond .ne 5, (77, 3, 40), [42], []),
   (.iconst 1, (80, 1, 41), [], []),
   (.ireturn, (81, 1, 42), [1], []),
   (.iinc 2 1, (82, 3, 43), [], []),
   (.goto (-83), (85, 3, 44), [2], []),
   (.iconst 0, (88, 1, 45), [], []),
   (.ireturn, (89, 1, 46), [1], [])]]
def rw_R_readFactor : List (List xq_Row) := [
  [(.aload_n 0, (0, 1, 1), [], []),
   (.invokevirtual 46, (1, 3, 2), [54, 0, 0, 5, 0, 421, 423, 1, 424, 77], []),
   (.istore_n 2, (4, 1, 3), [], []),
   (.iload_n 2, (5, 1, 4), [], []),
   (.bipush 33, (6, 2, 5), [], []),
   (.if_icmp .eq 14, (8, 3, 6), [12], []),
   (.iload_n 2, (11, 1, 7), [], []),
   (.bipush 40, (12, 2, 8), [], []),
   (.if_icmp .eq 8, (14, 3, 9), [12], []),
   (.aload_n 0, (17, 1, 10), [], []),
   (.invokevirtual 95, (18, 3, 11), [62, 0, 0, 5, 0, 500, 502, 7, 503, 77], []),
   (.ireturn, (21, 1, 12), [1], []),
   (.iload_n 1, (22, 1, 13), [], []),
   (.iconst 5, (23, 1, 14), [], []),
   (.if_icmp .lt 5, (24, 3, 15), [17], []),
   (.iconst 0, (27, 1, 16), [], [])],
  [(.ireturn, (28, 1, 17), [1], []),
   (.aload_n 0, (29, 1, 18), [], []),
   (.dup, (30, 1, 19), [], []),
   (.getfield 26, (31, 3, 20), [0, 5, 3, 339], [3]),
   (.iconst 1, (34, 1, 21), [], []),
   (.iadd, (35, 1, 22), [0], []),
   (.putfield 26, (36, 3, 23), [0, 5, 3, 339, 0], [3]),
   (.iload_n 2, (39, 1, 24), [], []),
   (.bipush 40, (40, 2, 25), [], []),
   (.if_icmp .ne 28, (42, 3, 26), [40], []),
   (.aload_n 0, (45, 1, 27), [], []),
   (.iload_n 1, (46, 1, 28), [], []),
   (.iconst 1, (47, 1, 29), [], []),
   (.iadd, (48, 1, 30), [0], []),
   (.invokevirtual 76, (49, 3, 31), [60, 1, 0, 5, 0, 492, 494, 5, 495, 77], []),
   (.ifCond .eq 16, (52, 3, 32), [38], [])],
  [(.aload_n 0, (55, 1, 33), [], []),
   (.bipush 41, (56, 2, 34), [], []),
   (.invokevirtual 42, (58, 3, 35), [55, 1, 0, 5, 0, 484, 486, 3, 487, 77], []),
   (.ifCond .eq 7, (61, 3, 36), [38], []),
   (.iconst 1, (64, 1, 37), [], []),
   (.goto 4, (65, 3, 38), [39], []),
   (.iconst 0, (68, 1, 39), [], []),
   (.ireturn, (69, 1, 40), [1], []),
   (.aload_n 0, (70, 1, 41), [], []),
   (.iload_n 1, (71, 1, 42), [], []),
   (.iconst 1, (72, 1, 43), [], []),
   (.iadd, (73, 1, 44), [0], []),
   (.invokevirtual 89, (74, 3, 45), [61, 1, 0, 5, 0, 496, 498, 6, 499, 77], []),
   (.ifCond .ne 5, (77, 3, 46), [48], []),
   (.iconst 0, (80, 1, 47), [], []),
   (.ireturn, (81, 1, 48), [1], [])],
  [(.aload_n 0, (82, 1, 49), [], []),
   (.getfield 12, (83, 3, 50), [2, 5, 0, 335], [0]),
   (.iconst (-1), (86, 1, 51), [], []),
   (.invokevirtual 92, (87, 3, 52), [46, 1, 0, 4, 0, 567, 568, 569, 570, 75], []),
   (.iconst 1, (90, 1, 53), [], []),
   (.ireturn, (91, 1, 54), [1], [])]]
def rw_R_readTest : List (List xq_Row) := [
  [(.aload_n 0, (0, 1, 1), [], []),
   (.ldc 98, (1, 2, 2), [1, 8, 4], []),
   (.invokevirtual 100, (3, 3, 3), [63, 1, 0, 5, 0, 505, 507, 8, 508, 77], []),
   (.istore_n 1, (6, 1, 4), [], []),
   (.iload_n 1, (7, 1, 5), [], []),
   (.ifCond .ge 5, (8, 3, 6), [8], []),
   (.iconst 0, (11, 1, 7), [], []),
   (.ireturn, (12, 1, 8), [1], []),
   (.aload_n 0, (13, 1, 9), [], []),
   (.ldc 104, (14, 2, 10), [1, 9, 5], []),
   (.invokevirtual 100, (16, 3, 11), [63, 1, 0, 5, 0, 505, 507, 8, 508, 77], []),
   (.istore_n 2, (19, 1, 12), [], []),
   (.iload_n 2, (20, 1, 13), [], []),
   (.ifCond .ge 5, (21, 3, 14), [16], []),
   (.iconst 0, (24, 1, 15), [], []),
   (.ireturn, (25, 1, 16), [1], [])],
  [(.aload_n 0, (26, 1, 17), [], []),
   (.invokevirtual 67, (27, 3, 18), [59, 0, 0, 5, 0, 488, 490, 4, 491, 77], []),
   (.istore_n 3, (30, 1, 19), [], []),
   (.iload_n 3, (31, 1, 20), [], []),
   (.ifCond .ge 5, (32, 3, 21), [23], []),
   (.iconst 0, (35, 1, 22), [], []),
   (.ireturn, (36, 1, 23), [1], []),
   (.aload_n 0, (37, 1, 24), [], []),
   (.getfield 12, (38, 3, 25), [2, 5, 0, 335], [0]),
   (.iload_n 1, (41, 1, 26), [], []),
   (.sipush 300, (42, 3, 27), [], []),
   (.imul, (45, 1, 28), [0], []),
   (.iload_n 2, (46, 1, 29), [], []),
   (.bipush 100, (47, 2, 30), [], []),
   (.imul, (49, 1, 31), [0], []),
   (.iadd, (50, 1, 32), [0], [])],
  [(.iload_n 3, (51, 1, 33), [], []),
   (.iadd, (52, 1, 34), [0], []),
   (.invokevirtual 92, (53, 3, 35), [46, 1, 0, 4, 0, 567, 568, 569, 570, 75], []),
   (.iconst 1, (56, 1, 36), [], []),
   (.ireturn, (57, 1, 37), [1], [])]]
def rw_R_readOneOf : List (List xq_Row) := [
  [(.aload_n 0, (0, 1, 1), [], []),
   (.invokevirtual 46, (1, 3, 2), [54, 0, 0, 5, 0, 421, 423, 1, 424, 77], []),
   (.istore_n 2, (4, 1, 3), [], []),
   (.iload_n 2, (5, 1, 4), [], []),
   (.ifCond .ge 7, (6, 3, 5), [7], []),
   (.iconst (-1), (9, 1, 6), [], []),
   (.goto 9, (10, 3, 7), [11], []),
   (.aload_n 1, (13, 1, 8), [], []),
   (.iload_n 2, (14, 1, 9), [], []),
   (.i2c, (15, 1, 10), [], []),
   (.invokevirtual 106, (16, 3, 11), [9, 1, 0, 99, 0, 509, 510, 511, 512, 81], []),
   (.istore_n 3, (19, 1, 12), [], []),
   (.iload_n 3, (20, 1, 13), [], []),
   (.ifCond .lt 13, (21, 3, 14), [20], []),
   (.aload_n 0, (24, 1, 15), [], []),
   (.dup, (25, 1, 16), [], [])],
  [(.getfield 26, (26, 3, 17), [0, 5, 3, 339], [3]),
   (.iconst 1, (29, 1, 18), [], []),
   (.iadd, (30, 1, 19), [0], []),
   (.putfield 26, (31, 3, 20), [0, 5, 3, 339, 0], [3]),
   (.iload_n 3, (34, 1, 21), [], []),
   (.ireturn, (35, 1, 22), [0], [])]]
def rw_S_init : List (List xq_Row) := [
  [(.aload_n 0, (0, 1, 1), [], []),
   (.invokespecial 3, (1, 3, 2), [106], []),
   (.aload_n 0, (4, 1, 3), [], []),
   (.new 9, (5, 3, 4), [8, 107, 108, 72], []),
   (.dup, (8, 1, 5), [], []),
   (.invokespecial 11, (9, 3, 6), [72, 0, 5, 0, 3, 109, 110, 0, 111, 72], []),
   (.putfield 12, (12, 3, 7), [2, 6, 0, 259, 1], [0]),
   (.aload_n 0, (15, 1, 8), [], []),
   (.new 18, (16, 3, 9), [2, 144, 145, 73], []),
   (.dup, (19, 1, 10), [], []),
   (.invokespecial 20, (20, 3, 11), [25, 0, 3, 0, 3, 146, 147, 0, 148, 73], []),
   (.putfield 21, (23, 3, 12), [2, 6, 1, 262, 1], [1]),
   (.aload_n 0, (26, 1, 13), [], []),
   (.new 25, (27, 3, 14), [7, 170, 171, 74], []),
   (.dup, (30, 1, 15), [], []),
   (.invokespecial 27, (31, 3, 16), [66, 0, 3, 0, 3, 172, 173, 0, 174, 74], [])],
  [(.putfield 28, (34, 3, 17), [2, 6, 2, 265, 1], [2]),
   (.aload_n 0, (37, 1, 18), [], []),
   (.new 32, (38, 3, 19), [4, 202, 203, 75], []),
   (.dup, (41, 1, 20), [], []),
   (.invokespecial 34, (42, 3, 21), [44, 0, 3, 0, 3, 204, 205, 0, 206, 75], []),
   (.putfield 35, (45, 3, 22), [2, 6, 3, 268, 1], [3]),
   (.aload_n 0, (48, 1, 23), [], []),
   (.new 39, (49, 3, 24), [1, 236, 237, 76], []),
   (.dup, (52, 1, 25), [], []),
   (.invokespecial 41, (53, 3, 26), [22, 0, 3, 0, 3, 238, 239, 0, 240, 76], []),
   (.putfield 42, (56, 3, 27), [2, 6, 4, 271, 1], [4]),
   (.aload_n 0, (59, 1, 28), [], []),
   (.bipush 100, (60, 2, 29), [], []),
   (.newarray .int, (62, 2, 30), [0], []),
   (.putfield 46, (64, 3, 31), [2, 6, 5, 273, 1], [5]),
   (.aload_n 0, (67, 1, 32), [], [])],
  [(.iconst 0, (68, 1, 33), [], []),
   (.putfield 50, (69, 3, 34), [0, 6, 6, 275, 0], [6]),
   (.aload_n 0, (72, 1, 35), [], []),
   (.iconst 0, (73, 1, 36), [], []),
   (.putfield 54, (74, 3, 37), [0, 6, 7, 277, 0], [7]),
   (.return_, (77, 1, 38), [], [])]]
def rw_S_copy : List (List xq_Row) := [
  [(.aload_n 0, (0, 1, 1), [], []),
   (.getfield 12, (1, 3, 2), [2, 6, 0, 259], [0]),
   (.aload_n 1, (4, 1, 3), [], []),
   (.getfield 12, (5, 3, 4), [2, 6, 0, 259], [0]),
   (.invokevirtual 57, (8, 3, 5), [78, 1, 0, 8, 0, 951, 952, 953, 954, 72], []),
   (.aload_n 0, (11, 1, 6), [], []),
   (.getfield 21, (12, 3, 7), [2, 6, 1, 262], [1]),
   (.aload_n 1, (15, 1, 8), [], []),
   (.getfield 21, (16, 3, 9), [2, 6, 1, 262], [1]),
   (.invokevirtual 61, (19, 3, 10), [28, 1, 0, 2, 0, 956, 957, 958, 959, 73], []),
   (.aload_n 0, (22, 1, 11), [], []),
   (.getfield 28, (23, 3, 12), [2, 6, 2, 265], [2]),
   (.aload_n 1, (26, 1, 13), [], []),
   (.getfield 28, (27, 3, 14), [2, 6, 2, 265], [2]),
   (.invokevirtual 64, (30, 3, 15), [71, 1, 0, 7, 0, 961, 962, 963, 964, 74], []),
   (.aload_n 0, (33, 1, 16), [], [])],
  [(.getfield 35, (34, 3, 17), [2, 6, 3, 268], [3]),
   (.aload_n 1, (37, 1, 18), [], []),
   (.getfield 35, (38, 3, 19), [2, 6, 3, 268], [3]),
   (.invokevirtual 67, (41, 3, 20), [51, 1, 0, 4, 0, 966, 576, 577, 578, 75], []),
   (.aload_n 0, (44, 1, 21), [], []),
   (.getfield 42, (45, 3, 22), [2, 6, 4, 271], [4]),
   (.aload_n 1, (48, 1, 23), [], []),
   (.getfield 42, (49, 3, 24), [2, 6, 4, 271], [4]),
   (.invokevirtual 70, (52, 3, 25), [24, 1, 0, 1, 0, 967, 968, 969, 970, 76], []),
   (.aload_n 1, (55, 1, 26), [], []),
   (.getfield 46, (56, 3, 27), [2, 6, 5, 273], [5]),
   (.aload_n 0, (59, 1, 28), [], []),
   (.getfield 46, (60, 3, 29), [2, 6, 5, 273], [5]),
   (.invokestatic 73, (63, 3, 30), [127, 2, 0, 0, 2, 972, 580, 0, 581, 69], []),
   (.aload_n 0, (66, 1, 31), [], []),
   (.aload_n 1, (67, 1, 32), [], [])],
  [(.getfield 50, (68, 3, 33), [0, 6, 6, 275], [6]),
   (.putfield 50, (71, 3, 34), [0, 6, 6, 275, 0], [6]),
   (.aload_n 0, (74, 1, 35), [], []),
   (.aload_n 1, (75, 1, 36), [], []),
   (.getfield 54, (76, 3, 37), [0, 6, 7, 277], [7]),
   (.putfield 54, (79, 3, 38), [0, 6, 7, 277, 0], [7]),
   (.return_, (82, 1, 39), [], [])]]
def rw_T_init : List (List xq_Row) := [
  [(.aload_n 0, (0, 1, 1), [], []),
   (.invokespecial 3, (1, 3, 2), [175], []),
   (.aload_n 0, (4, 1, 3), [], []),
   (.bipush 20, (5, 2, 4), [], []),
   (.newarray .int, (7, 2, 5), [0], []),
   (.putfield 9, (9, 3, 6), [2, 7, 0, 176, 1], [0]),
   (.aload_n 0, (12, 1, 7), [], []),
   (.bipush 20, (13, 2, 8), [], []),
   (.newarray .int, (15, 2, 9), [0], []),
   (.putfield 15, (17, 3, 10), [2, 7, 1, 178, 1], [1]),
   (.aload_n 0, (20, 1, 11), [], []),
   (.bipush 6, (21, 2, 12), [], []),
   (.newarray .int, (23, 2, 13), [0], []),
   (.putfield 18, (25, 3, 14), [2, 7, 2, 180, 1], [2]),
   (.aload_n 0, (28, 1, 15), [], []),
   (.iconst 0, (29, 1, 16), [], [])],
  [(.putfield 21, (30, 3, 17), [0, 7, 3, 182, 0], [3]),
   (.aload_n 0, (33, 1, 18), [], []),
   (.iconst 0, (34, 1, 19), [], []),
   (.putfield 25, (35, 3, 20), [0, 7, 4, 184, 0], [4]),
   (.aload_n 0, (38, 1, 21), [], []),
   (.iconst 0, (39, 1, 22), [], []),
   (.putfield 28, (40, 3, 23), [0, 7, 5, 187, 0], [5]),
   (.return_, (43, 1, 24), [], [])]]
def rw_T_add : List (List xq_Row) := [
  [(.aload_n 0, (0, 1, 1), [], []),
   (.getfield 21, (1, 3, 2), [0, 7, 3, 182], [3]),
   (.ifCond .lt 42, (4, 3, 3), [25], []),
   (.aload_n 0, (7, 1, 4), [], []),
   (.getfield 21, (8, 3, 5), [0, 7, 3, 182], [3]),
   (.bipush 20, (11, 2, 6), [], []),
   (.if_icmp .ge 33, (13, 3, 7), [25], []),
   (.aload_n 0, (16, 1, 8), [], []),
   (.getfield 9, (17, 3, 9), [2, 7, 0, 176], [0]),
   (.aload_n 0, (20, 1, 10), [], []),
   (.getfield 21, (21, 3, 11), [0, 7, 3, 182], [3]),
   (.iload_n 1, (24, 1, 12), [], []),
   (.iastore, (25, 1, 13), [], []),
   (.aload_n 0, (26, 1, 14), [], []),
   (.getfield 15, (27, 3, 15), [2, 7, 1, 178], [1]),
   (.aload_n 0, (30, 1, 16), [], [])],
  [(.getfield 21, (31, 3, 17), [0, 7, 3, 182], [3]),
   (.iload_n 2, (34, 1, 18), [], []),
   (.iastore, (35, 1, 19), [], []),
   (.aload_n 0, (36, 1, 20), [], []),
   (.dup, (37, 1, 21), [], []),
   (.getfield 21, (38, 3, 22), [0, 7, 3, 182], [3]),
   (.iconst 1, (41, 1, 23), [], []),
   (.iadd, (42, 1, 24), [0], []),
   (.putfield 21, (43, 3, 25), [0, 7, 3, 182, 0], [3]),
   (.return_, (46, 1, 26), [], [])]]
def rw_T_last : List (List xq_Row) := [
  [(.aload_n 0, (0, 1, 1), [], []),
   (.getfield 21, (1, 3, 2), [0, 7, 3, 182], [3]),
   (.ifCond .le 26, (4, 3, 3), [15], []),
   (.aload_n 0, (7, 1, 4), [], []),
   (.getfield 21, (8, 3, 5), [0, 7, 3, 182], [3]),
   (.bipush 20, (11, 2, 6), [], []),
   (.if_icmp .gt 17, (13, 3, 7), [15], []),
   (.aload_n 0, (16, 1, 8), [], []),
   (.getfield 9, (17, 3, 9), [2, 7, 0, 176], [0]),
   (.aload_n 0, (20, 1, 10), [], []),
   (.getfield 21, (21, 3, 11), [0, 7, 3, 182], [3]),
   (.iconst 1, (24, 1, 12), [], []),
   (.isub, (25, 1, 13), [0], []),
   (.iaload, (26, 1, 14), [], []),
   (.goto 4, (27, 3, 15), [16], []),
   (.iconst 0, (30, 1, 16), [], [])],
  [(.ireturn, (31, 1, 17), [0], [])]]
def rw_T_takeBack : List (List xq_Row) := [
  [(.aload_n 0, (0, 1, 1), [], []),
   (.getfield 21, (1, 3, 2), [0, 7, 3, 182], [3]),
   (.ifCond .le 12, (4, 3, 3), [7], []),
   (.aload_n 0, (7, 1, 4), [], []),
   (.getfield 21, (8, 3, 5), [0, 7, 3, 182], [3]),
   (.bipush 20, (11, 2, 6), [], []),
   (.if_icmp .le 5, (13, 3, 7), [9], []),
   (.iconst 0, (16, 1, 8), [], []),
   (.ireturn, (17, 1, 9), [1], []),
   (.aload_n 0, (18, 1, 10), [], []),
   (.getfield 15, (19, 3, 11), [2, 7, 1, 178], [1]),
   (.aload_n 0, (22, 1, 12), [], []),
   (.getfield 21, (23, 3, 13), [0, 7, 3, 182], [3]),
   (.iconst 1, (26, 1, 14), [], []),
   (.isub, (27, 1, 15), [0], []),
   (.iaload, (28, 1, 16), [], [])],
  [(.istore_n 1, (29, 1, 17), [], []),
   (.aload_n 0, (30, 1, 18), [], []),
   (.getfield 9, (31, 3, 19), [2, 7, 0, 176], [0]),
   (.aload_n 0, (34, 1, 20), [], []),
   (.getfield 21, (35, 3, 21), [0, 7, 3, 182], [3]),
   (.iconst 1, (38, 1, 22), [], []),
   (.isub, (39, 1, 23), [0], []),
   (.iload_n 1, (40, 1, 24), [], []),
   (.iastore, (41, 1, 25), [], []),
   (.aload_n 0, (42, 1, 26), [], []),
   (.iload_n 1, (43, 1, 27), [], []),
   (.invokevirtual 31, (44, 3, 28), [70, 1, 0, 7, 0, 729, 668, 669, 670, 74], []),
   (.ifCond .ne 39, (47, 3, 29), [48], []),
   (.aload_n 0, (50, 1, 30), [], []),
   (.getfield 28, (51, 3, 31), [0, 7, 5, 187], [5]),
   (.ifCond .lt 32, (54, 3, 32), [48], [])],
  [(.aload_n 0, (57, 1, 33), [], []),
   (.getfield 28, (58, 3, 34), [0, 7, 5, 187], [5]),
   (.bipush 6, (61, 2, 35), [], []),
   (.if_icmp .ge 23, (63, 3, 36), [48], []),
   (.aload_n 0, (66, 1, 37), [], []),
   (.getfield 18, (67, 3, 38), [2, 7, 2, 180], [2]),
   (.aload_n 0, (70, 1, 39), [], []),
   (.getfield 28, (71, 3, 40), [0, 7, 5, 187], [5]),
   (.iload_n 1, (74, 1, 41), [], []),
   (.iastore, (75, 1, 42), [], []),
   (.aload_n 0, (76, 1, 43), [], []),
   (.dup, (77, 1, 44), [], []),
   (.getfield 28, (78, 3, 45), [0, 7, 5, 187], [5]),
   (.iconst 1, (81, 1, 46), [], []),
   (.iadd, (82, 1, 47), [0], []),
   (.putfield 28, (83, 3, 48), [0, 7, 5, 187, 0], [5])],
  [(.iconst 1, (86, 1, 49), [], []),
   (.ireturn, (87, 1, 50), [1], [])]]
def rw_T_isLeft : List (List xq_Row) := [
  [(.iconst 0, (0, 1, 1), [], []),
   (.istore_n 2, (1, 1, 2), [], []),
   (.iload_n 2, (2, 1, 3), [], []),
   (.aload_n 0, (3, 1, 4), [], []),
   (.getfield 28, (4, 3, 5), [0, 7, 5, 187], [5]),
   (.if_icmp .ge 21, (7, 3, 6), [16], []),
   (.aload_n 0, (10, 1, 7), [], []),
   (.getfield 18, (11, 3, 8), [2, 7, 2, 180], [2]),
   (.iload_n 2, (14, 1, 9), [], []),
   (.iaload, (15, 1, 10), [], []),
   (.iload_n 1, (16, 1, 11), [], []),
   (.if_icmp .ne 5, (17, 3, 12), [14], []),
   (.iconst 1, (20, 1, 13), [], []),
   (.ireturn, (21, 1, 14), [1], []),
   (.iinc 2 1, (22, 3, 15), [], []),
   (.goto (-23), (25, 3, 16), [2], [])],
  [(.iconst 0, (28, 1, 17), [], []),
   (.ireturn, (29, 1, 18), [1], [])]]
def rw_T_copy : List (List xq_Row) := [
  [(.aload_n 1, (0, 1, 1), [], []),
   (.getfield 9, (1, 3, 2), [2, 7, 0, 176], [0]),
   (.aload_n 0, (4, 1, 3), [], []),
   (.getfield 9, (5, 3, 4), [2, 7, 0, 176], [0]),
   (.invokestatic 35, (8, 3, 5), [127, 2, 0, 0, 2, 965, 580, 0, 581, 69], []),
   (.aload_n 1, (11, 1, 6), [], []),
   (.getfield 15, (12, 3, 7), [2, 7, 1, 178], [1]),
   (.aload_n 0, (15, 1, 8), [], []),
   (.getfield 15, (16, 3, 9), [2, 7, 1, 178], [1]),
   (.invokestatic 35, (19, 3, 10), [127, 2, 0, 0, 2, 965, 580, 0, 581, 69], []),
   (.aload_n 1, (22, 1, 11), [], []),
   (.getfield 18, (23, 3, 12), [2, 7, 2, 180], [2]),
   (.aload_n 0, (26, 1, 13), [], []),
   (.getfield 18, (27, 3, 14), [2, 7, 2, 180], [2]),
   (.invokestatic 35, (30, 3, 15), [127, 2, 0, 0, 2, 965, 580, 0, 581, 69], []),
   (.aload_n 0, (33, 1, 16), [], [])],
  [(.aload_n 1, (34, 1, 17), [], []),
   (.getfield 21, (35, 3, 18), [0, 7, 3, 182], [3]),
   (.putfield 21, (38, 3, 19), [0, 7, 3, 182, 0], [3]),
   (.aload_n 0, (41, 1, 20), [], []),
   (.aload_n 1, (42, 1, 21), [], []),
   (.getfield 25, (43, 3, 22), [0, 7, 4, 184], [4]),
   (.putfield 25, (46, 3, 23), [0, 7, 4, 184, 0], [4]),
   (.aload_n 0, (49, 1, 24), [], []),
   (.aload_n 1, (50, 1, 25), [], []),
   (.getfield 28, (51, 3, 26), [0, 7, 5, 187], [5]),
   (.putfield 28, (54, 3, 27), [0, 7, 5, 187, 0], [5]),
   (.return_, (57, 1, 28), [], [])]]
def rw_W_init : List (List xq_Row) := [
  [(.aload_n 0, (0, 1, 1), [], []),
   (.invokespecial 3, (1, 3, 2), [112], []),
   (.aload_n 0, (4, 1, 3), [], []),
   (.bipush 8, (5, 2, 4), [], []),
   (.newarray .int, (7, 2, 5), [0], []),
   (.putfield 9, (9, 3, 6), [2, 8, 0, 113, 1], [0]),
   (.aload_n 0, (12, 1, 7), [], []),
   (.bipush 8, (13, 2, 8), [], []),
   (.newarray .int, (15, 2, 9), [0], []),
   (.putfield 15, (17, 3, 10), [2, 8, 1, 116, 1], [1]),
   (.aload_n 0, (20, 1, 11), [], []),
   (.bipush 8, (21, 2, 12), [], []),
   (.newarray .int, (23, 2, 13), [0], []),
   (.putfield 18, (25, 3, 14), [2, 8, 2, 119, 1], [2]),
   (.aload_n 0, (28, 1, 15), [], []),
   (.bipush 8, (29, 2, 16), [], [])],
  [(.newarray .int, (31, 2, 17), [0], []),
   (.putfield 21, (33, 3, 18), [2, 8, 3, 122, 1], [3]),
   (.aload_n 0, (36, 1, 19), [], []),
   (.bipush 40, (37, 2, 20), [], []),
   (.newarray .int, (39, 2, 21), [0], []),
   (.putfield 24, (41, 3, 22), [2, 8, 4, 125, 1], [4]),
   (.aload_n 0, (44, 1, 23), [], []),
   (.iconst 0, (45, 1, 24), [], []),
   (.putfield 27, (46, 3, 25), [0, 8, 5, 127, 0], [5]),
   (.return_, (49, 1, 26), [], [])]]
def rw_W_has : List (List xq_Row) := [
  [(.iload_n 1, (0, 1, 1), [], []),
   (.ifCond .lt 15, (1, 3, 2), [8], []),
   (.iload_n 1, (4, 1, 3), [], []),
   (.aload_n 0, (5, 1, 4), [], []),
   (.getfield 27, (6, 3, 5), [0, 8, 5, 127], [5]),
   (.if_icmp .ge 7, (9, 3, 6), [8], []),
   (.iconst 1, (12, 1, 7), [], []),
   (.goto 4, (13, 3, 8), [9], []),
   (.iconst 0, (16, 1, 9), [], []),
   (.ireturn, (17, 1, 10), [1], [])]]
def rw_W_add : List (List xq_Row) := [
  [(.aload_n 0, (0, 1, 1), [], []),
   (.getfield 27, (1, 3, 2), [0, 8, 5, 127], [5]),
   (.ifCond .lt 12, (4, 3, 3), [7], []),
   (.aload_n 0, (7, 1, 4), [], []),
   (.getfield 27, (8, 3, 5), [0, 8, 5, 127], [5]),
   (.bipush 8, (11, 2, 6), [], []),
   (.if_icmp .lt 5, (13, 3, 7), [9], []),
   (.iconst 0, (16, 1, 8), [], []),
   (.ireturn, (17, 1, 9), [1], []),
   (.aload_n 0, (18, 1, 10), [], []),
   (.getfield 9, (19, 3, 11), [2, 8, 0, 113], [0]),
   (.aload_n 0, (22, 1, 12), [], []),
   (.getfield 27, (23, 3, 13), [0, 8, 5, 127], [5]),
   (.iload_n 1, (26, 1, 14), [], []),
   (.iastore, (27, 1, 15), [], []),
   (.aload_n 0, (28, 1, 16), [], [])],
  [(.getfield 15, (29, 3, 17), [2, 8, 1, 116], [1]),
   (.aload_n 0, (32, 1, 18), [], []),
   (.getfield 27, (33, 3, 19), [0, 8, 5, 127], [5]),
   (.iload_n 2, (36, 1, 20), [], []),
   (.iastore, (37, 1, 21), [], []),
   (.aload_n 0, (38, 1, 22), [], []),
   (.getfield 18, (39, 3, 23), [2, 8, 2, 119], [2]),
   (.aload_n 0, (42, 1, 24), [], []),
   (.getfield 27, (43, 3, 25), [0, 8, 5, 127], [5]),
   (.iconst 0, (46, 1, 26), [], []),
   (.iastore, (47, 1, 27), [], []),
   (.aload_n 0, (48, 1, 28), [], []),
   (.getfield 21, (49, 3, 29), [2, 8, 3, 122], [3]),
   (.aload_n 0, (52, 1, 30), [], []),
   (.getfield 27, (53, 3, 31), [0, 8, 5, 127], [5]),
   (.iload_n 1, (56, 1, 32), [], [])],
  [(.invokestatic 31, (57, 3, 33), [131, 1, 0, 0, 2, 603, 592, 0, 593, 69], []),
   (.iastore, (60, 1, 34), [], []),
   (.iload_n 1, (61, 1, 35), [], []),
   (.istore_n 3, (62, 1, 36), [], []),
   (.aload_n 0, (63, 1, 37), [], []),
   (.getfield 21, (64, 3, 38), [2, 8, 3, 122], [3]),
   (.aload_n 0, (67, 1, 39), [], []),
   (.getfield 27, (68, 3, 40), [0, 8, 5, 127], [5]),
   (.iaload, (71, 1, 41), [], []),
   (.iconst 1, (72, 1, 42), [], []),
   (.isub, (73, 1, 43), [0], []),
   (.istore 4, (74, 2, 44), [], []),
   (.iload 4, (76, 2, 45), [], []),
   (.ifCond .lt 38, (78, 3, 46), [67], []),
   (.iload 4, (81, 2, 47), [], []),
   (.iconst 5, (83, 1, 48), [], [])],
  [(.if_icmp .ge 32, (84, 3, 49), [67], []),
   (.aload_n 0, (87, 1, 50), [], []),
   (.getfield 24, (88, 3, 51), [2, 8, 4, 125], [4]),
   (.aload_n 0, (91, 1, 52), [], []),
   (.getfield 27, (92, 3, 53), [0, 8, 5, 127], [5]),
   (.iconst 5, (95, 1, 54), [], []),
   (.imul, (96, 1, 55), [0], []),
   (.iload 4, (97, 2, 56), [], []),
   (.iadd, (99, 1, 57), [0], []),
   (.iload_n 3, (100, 1, 58), [], []),
   (.bipush 10, (101, 2, 59), [], []),
   (.irem, (103, 1, 60), [], []),
   (.iastore, (104, 1, 61), [], []),
   (.iload_n 3, (105, 1, 62), [], []),
   (.bipush 10, (106, 2, 63), [], []),
   (.idiv, (108, 1, 64), [], [])],
  [(.istore_n 3, (109, 1, 65), [], []),
   (.iinc 4 (-1), (110, 3, 66), [], []),
   (.goto (-37), (113, 3, 67), [44], []),
   (.aload_n 0, (116, 1, 68), [], []),
   (.dup, (117, 1, 69), [], []),
   (.getfield 27, (118, 3, 70), [0, 8, 5, 127], [5]),
   (.iconst 1, (121, 1, 71), [], []),
   (.iadd, (122, 1, 72), [0], []),
   (.putfield 27, (123, 3, 73), [0, 8, 5, 127, 0], [5]),
   (.iconst 1, (126, 1, 74), [], []),
   (.ireturn, (127, 1, 75), [1], [])]]
def rw_W_numberOf : List (List xq_Row) := [
  [(.iconst 0, (0, 1, 1), [], []),
   (.istore_n 2, (1, 1, 2), [], []),
   (.iload_n 2, (2, 1, 3), [], []),
   (.aload_n 0, (3, 1, 4), [], []),
   (.getfield 27, (4, 3, 5), [0, 8, 5, 127], [5]),
   (.if_icmp .ge 21, (7, 3, 6), [16], []),
   (.aload_n 0, (10, 1, 7), [], []),
   (.getfield 9, (11, 3, 8), [2, 8, 0, 113], [0]),
   (.iload_n 2, (14, 1, 9), [], []),
   (.iaload, (15, 1, 10), [], []),
   (.iload_n 1, (16, 1, 11), [], []),
   (.if_icmp .ne 5, (17, 3, 12), [14], []),
   (.iload_n 2, (20, 1, 13), [], []),
   (.ireturn, (21, 1, 14), [0], []),
   (.iinc 2 1, (22, 3, 15), [], []),
   (.goto (-23), (25, 3, 16), [2], [])],
  [(.iconst (-1), (28, 1, 17), [], []),
   (.ireturn, (29, 1, 18), [0], [])]]
def rw_W_begins : List (List xq_Row) := [
  [(.aload_n 0, (0, 1, 1), [], []),
   (.getfield 21, (1, 3, 2), [2, 8, 3, 122], [3]),
   (.iload_n 1, (4, 1, 3), [], []),
   (.iaload, (5, 1, 4), [], []),
   (.iload_n 2, (6, 1, 5), [], []),
   (.invokestatic 31, (7, 3, 6), [131, 1, 0, 0, 2, 603, 592, 0, 593, 69], []),
   (.isub, (10, 1, 7), [0], []),
   (.istore_n 3, (11, 1, 8), [], []),
   (.iload_n 3, (12, 1, 9), [], []),
   (.ifCond .lt 21, (13, 3, 10), [20], []),
   (.aload_n 0, (16, 1, 11), [], []),
   (.getfield 9, (17, 3, 12), [2, 8, 0, 113], [0]),
   (.iload_n 1, (20, 1, 13), [], []),
   (.iaload, (21, 1, 14), [], []),
   (.iload_n 3, (22, 1, 15), [], []),
   (.invokestatic 35, (23, 3, 16), [132, 2, 0, 0, 2, 804, 805, 0, 806, 69], [])],
  [(.iload_n 2, (26, 1, 17), [], []),
   (.if_icmp .ne 7, (27, 3, 18), [20], []),
   (.iconst 1, (30, 1, 19), [], []),
   (.goto 4, (31, 3, 20), [21], []),
   (.iconst 0, (34, 1, 21), [], []),
   (.ireturn, (35, 1, 22), [1], [])]]
def rw_W_aheadOf : List (List xq_Row) := [
  [(.iconst 0, (0, 1, 1), [], []),
   (.istore_n 3, (1, 1, 2), [], []),
   (.iconst 0, (2, 1, 3), [], []),
   (.istore 4, (3, 2, 4), [], []),
   (.iload 4, (5, 2, 5), [], []),
   (.aload_n 0, (7, 1, 6), [], []),
   (.getfield 27, (8, 3, 7), [0, 8, 5, 127], [5]),
   (.if_icmp .ge 77, (11, 3, 8), [48], []),
   (.aload_n 0, (14, 1, 9), [], []),
   (.getfield 15, (15, 3, 10), [2, 8, 1, 116], [1]),
   (.iload 4, (18, 2, 11), [], []),
   (.iaload, (20, 1, 12), [], []),
   (.aload_n 0, (21, 1, 13), [], []),
   (.getfield 15, (22, 3, 14), [2, 8, 1, 116], [1]),
   (.iload_n 1, (25, 1, 15), [], []),
   (.iaload, (26, 1, 16), [], [])],
  [(.if_icmp .gt 25, (27, 3, 17), [29], []),
   (.aload_n 0, (30, 1, 18), [], []),
   (.getfield 15, (31, 3, 19), [2, 8, 1, 116], [1]),
   (.iload 4, (34, 2, 20), [], []),
   (.iaload, (36, 1, 21), [], []),
   (.aload_n 0, (37, 1, 22), [], []),
   (.getfield 15, (38, 3, 23), [2, 8, 1, 116], [1]),
   (.iload_n 1, (41, 1, 24), [], []),
   (.iaload, (42, 1, 25), [], []),
   (.if_icmp .ne 13, (43, 3, 26), [31], []),
   (.iload 4, (46, 2, 27), [], []),
   (.iload_n 1, (48, 1, 28), [], []),
   (.if_icmp .ge 7, (49, 3, 29), [31], []),
   (.iconst 1, (52, 1, 30), [], []),
   (.goto 4, (53, 3, 31), [32], []),
   (.iconst 0, (56, 1, 32), [], [])],
  [(.istore 5, (57, 2, 33), [], []),
   (.iload_n 3, (59, 1, 34), [], []),
   (.iload 5, (60, 2, 35), [], []),
   (.ifCond .eq 17, (62, 3, 36), [43], []),
   (.aload_n 0, (65, 1, 37), [], []),
   (.iload 4, (66, 2, 38), [], []),
   (.iload_n 2, (68, 1, 39), [], []),
   (.invokevirtual 39, (69, 3, 40), [76, 2, 0, 8, 0, 811, 801, 802, 803, 72], []),
   (.ifCond .eq 7, (72, 3, 41), [43], []),
   (.iconst 1, (75, 1, 42), [], []),
   (.goto 4, (76, 3, 43), [44], []),
   (.iconst 0, (79, 1, 44), [], []),
   (.iadd, (80, 1, 45), [0], []),
   (.istore_n 3, (81, 1, 46), [], []),
   (.iinc 4 1, (82, 3, 47), [], []),
   (.goto (-80), (85, 3, 48), [4], [])],
  [(.iload_n 3, (88, 1, 49), [], []),
   (.ireturn, (89, 1, 50), [0], [])]]
def rw_W_copy : List (List xq_Row) := [
  [(.aload_n 1, (0, 1, 1), [], []),
   (.getfield 9, (1, 3, 2), [2, 8, 0, 113], [0]),
   (.aload_n 0, (4, 1, 3), [], []),
   (.getfield 9, (5, 3, 4), [2, 8, 0, 113], [0]),
   (.invokestatic 43, (8, 3, 5), [127, 2, 0, 0, 2, 955, 580, 0, 581, 69], []),
   (.aload_n 1, (11, 1, 6), [], []),
   (.getfield 15, (12, 3, 7), [2, 8, 1, 116], [1]),
   (.aload_n 0, (15, 1, 8), [], []),
   (.getfield 15, (16, 3, 9), [2, 8, 1, 116], [1]),
   (.invokestatic 43, (19, 3, 10), [127, 2, 0, 0, 2, 955, 580, 0, 581, 69], []),
   (.aload_n 1, (22, 1, 11), [], []),
   (.getfield 18, (23, 3, 12), [2, 8, 2, 119], [2]),
   (.aload_n 0, (26, 1, 13), [], []),
   (.getfield 18, (27, 3, 14), [2, 8, 2, 119], [2]),
   (.invokestatic 43, (30, 3, 15), [127, 2, 0, 0, 2, 955, 580, 0, 581, 69], []),
   (.aload_n 1, (33, 1, 16), [], [])],
  [(.getfield 21, (34, 3, 17), [2, 8, 3, 122], [3]),
   (.aload_n 0, (37, 1, 18), [], []),
   (.getfield 21, (38, 3, 19), [2, 8, 3, 122], [3]),
   (.invokestatic 43, (41, 3, 20), [127, 2, 0, 0, 2, 955, 580, 0, 581, 69], []),
   (.aload_n 1, (44, 1, 21), [], []),
   (.getfield 24, (45, 3, 22), [2, 8, 4, 125], [4]),
   (.aload_n 0, (48, 1, 23), [], []),
   (.getfield 24, (49, 3, 24), [2, 8, 4, 125], [4]),
   (.invokestatic 43, (52, 3, 25), [127, 2, 0, 0, 2, 955, 580, 0, 581, 69], []),
   (.aload_n 0, (55, 1, 26), [], []),
   (.aload_n 1, (56, 1, 27), [], []),
   (.getfield 27, (57, 3, 28), [0, 8, 5, 127], [5]),
   (.putfield 27, (60, 3, 29), [0, 8, 5, 127, 0], [5]),
   (.return_, (63, 1, 30), [], [])]]
def rw_X_init : List (List xq_Row) := [
  [(.aload_n 0, (0, 1, 1), [], []),
   (.invokespecial 3, (1, 3, 2), [92], []),
   (.aload_n 0, (4, 1, 3), [], []),
   (.new 9, (5, 3, 4), [3, 95, 96, 70], []),
   (.dup, (8, 1, 5), [], []),
   (.invokespecial 11, (9, 3, 6), [29, 0, 28, 0, 3, 97, 98, 0, 99, 70], []),
   (.putfield 12, (12, 3, 7), [2, 9, 4, 377, 1], [4]),
   (.aload_n 0, (15, 1, 8), [], []),
   (.aload_n 0, (16, 1, 9), [], []),
   (.getfield 12, (17, 3, 10), [2, 9, 4, 377], [4]),
   (.getfield 18, (20, 3, 11), [2, 3, 0, 297], [0]),
   (.putfield 22, (23, 3, 12), [2, 9, 0, 373, 1], [0]),
   (.aload_n 0, (26, 1, 13), [], []),
   (.new 25, (27, 3, 14), [6, 325, 102, 71], []),
   (.dup, (30, 1, 15), [], []),
   (.invokespecial 27, (31, 3, 16), [64, 0, 23, 0, 3, 326, 104, 0, 105, 71], [])],
  [(.putfield 28, (34, 3, 17), [2, 9, 1, 374, 1], [1]),
   (.aload_n 0, (37, 1, 18), [], []),
   (.iconst 0, (38, 1, 19), [], []),
   (.putfield 31, (39, 3, 20), [1, 9, 2, 375, 0], [2]),
   (.aload_n 0, (42, 1, 21), [], []),
   (.new 35, (43, 3, 22), [5, 327, 328, 77], []),
   (.dup, (46, 1, 23), [], []),
   (.invokespecial 37, (47, 3, 24), [52, 0, 5, 0, 3, 329, 330, 0, 331, 77], []),
   (.putfield 38, (50, 3, 25), [2, 9, 3, 376, 1], [3]),
   (.aload_n 0, (53, 1, 26), [], []),
   (.new 42, (54, 3, 27), [0, 349, 350, 78], []),
   (.dup, (57, 1, 28), [], []),
   (.invokespecial 44, (58, 3, 29), [16, 0, 1, 0, 3, 351, 352, 0, 353, 78], []),
   (.putfield 45, (61, 3, 30), [2, 9, 5, 378, 1], [5]),
   (.aload_n 0, (64, 1, 31), [], []),
   (.bipush 8, (65, 2, 32), [], [])],
  [(.newarray .int, (67, 2, 33), [0], []),
   (.putfield 49, (69, 3, 34), [2, 9, 6, 379, 1], [6]),
   (.aload_n 0, (72, 1, 35), [], []),
   (.bipush 10, (73, 2, 36), [], []),
   (.newarray .int, (75, 2, 37), [0], []),
   (.putfield 53, (77, 3, 38), [2, 9, 7, 380, 1], [7]),
   (.return_, (80, 1, 39), [], [])]]
def rw_X_feed : List (List xq_Row) := [
  [(.iload_n 1, (0, 1, 1), [], []),
   (.ifCond .lt 9, (1, 3, 2), [5], []),
   (.iload_n 1, (4, 1, 3), [], []),
   (.bipush 127, (5, 2, 4), [], []),
   (.if_icmp .le 6, (7, 3, 5), [7], []),
   (.bipush (-2), (10, 2, 6), [], []),
   (.ireturn, (12, 1, 7), [0], []),
   (.aload_n 0, (13, 1, 8), [], []),
   (.getfield 22, (14, 3, 9), [2, 9, 0, 373], [0]),
   (.getfield 56, (17, 3, 10), [0, 6, 6, 276], [6]),
   (.ifCond .lt 15, (20, 3, 11), [16], []),
   (.aload_n 0, (23, 1, 12), [], []),
   (.getfield 22, (24, 3, 13), [2, 9, 0, 373], [0]),
   (.getfield 56, (27, 3, 14), [0, 6, 6, 276], [6]),
   (.bipush 100, (30, 2, 15), [], []),
   (.if_icmp .lt 6, (32, 3, 16), [18], [])],
  [(.bipush (-4), (35, 2, 17), [], []),
   (.ireturn, (37, 1, 18), [0], []),
   (.aload_n 0, (38, 1, 19), [], []),
   (.getfield 22, (39, 3, 20), [2, 9, 0, 373], [0]),
   (.getfield 60, (42, 3, 21), [2, 6, 5, 274], [5]),
   (.aload_n 0, (45, 1, 22), [], []),
   (.getfield 22, (46, 3, 23), [2, 9, 0, 373], [0]),
   (.getfield 56, (49, 3, 24), [0, 6, 6, 276], [6]),
   (.iload_n 1, (52, 1, 25), [], []),
   (.iastore, (53, 1, 26), [], []),
   (.aload_n 0, (54, 1, 27), [], []),
   (.getfield 22, (55, 3, 28), [2, 9, 0, 373], [0]),
   (.dup, (58, 1, 29), [], []),
   (.getfield 56, (59, 3, 30), [0, 6, 6, 276], [6]),
   (.iconst 1, (62, 1, 31), [], []),
   (.iadd, (63, 1, 32), [0], [])],
  [(.putfield 56, (64, 3, 33), [0, 6, 6, 276, 0], [6]),
   (.aload_n 0, (67, 1, 34), [], []),
   (.getfield 22, (68, 3, 35), [2, 9, 0, 373], [0]),
   (.getfield 56, (71, 3, 36), [0, 6, 6, 276], [6]),
   (.ireturn, (74, 1, 37), [0], [])]]
def rw_X_telephone : List (List xq_Row) := [
  [(.aload_n 0, (0, 1, 1), [], []),
   (.getfield 22, (1, 3, 2), [2, 9, 0, 373], [0]),
   (.getfield 63, (4, 3, 3), [0, 6, 7, 278], [7]),
   (.iconst 5, (7, 1, 4), [], []),
   (.if_icmp .lt 6, (8, 3, 5), [7], []),
   (.bipush (-4), (11, 2, 6), [], []),
   (.ireturn, (13, 1, 7), [0], []),
   (.aload_n 0, (14, 1, 8), [], []),
   (.getfield 38, (15, 3, 9), [2, 9, 3, 376], [3]),
   (.aload_n 0, (18, 1, 10), [], []),
   (.getfield 22, (19, 3, 11), [2, 9, 0, 373], [0]),
   (.getfield 60, (22, 3, 12), [2, 6, 5, 274], [5]),
   (.aload_n 0, (25, 1, 13), [], []),
   (.getfield 22, (26, 3, 14), [2, 9, 0, 373], [0]),
   (.getfield 56, (29, 3, 15), [0, 6, 6, 276], [6]),
   (.invokevirtual 66, (32, 3, 16), [53, 2, 0, 5, 0, 406, 407, 408, 409, 77], [])],
  [(.istore_n 1, (35, 1, 17), [], []),
   (.aload_n 0, (36, 1, 18), [], []),
   (.getfield 22, (37, 3, 19), [2, 9, 0, 373], [0]),
   (.iconst 0, (40, 1, 20), [], []),
   (.putfield 56, (41, 3, 21), [0, 6, 6, 276, 0], [6]),
   (.iload_n 1, (44, 1, 22), [], []),
   (.ifCond .lt 8, (45, 3, 23), [27], []),
   (.bipush (-10), (48, 2, 24), [], []),
   (.iload_n 1, (50, 1, 25), [], []),
   (.isub, (51, 1, 26), [0], []),
   (.ireturn, (52, 1, 27), [0], []),
   (.aload_n 0, (53, 1, 28), [], []),
   (.getfield 22, (54, 3, 29), [2, 9, 0, 373], [0]),
   (.getfield 70, (57, 3, 30), [2, 6, 3, 269], [3]),
   (.aload_n 0, (60, 1, 31), [], []),
   (.getfield 38, (61, 3, 32), [2, 9, 3, 376], [3])],
  [(.getfield 74, (64, 3, 33), [2, 5, 0, 336], [0]),
   (.invokevirtual 75, (67, 3, 34), [51, 1, 0, 4, 0, 575, 576, 577, 578, 75], []),
   (.aload_n 0, (70, 1, 35), [], []),
   (.getfield 22, (71, 3, 36), [2, 9, 0, 373], [0]),
   (.dup, (74, 1, 37), [], []),
   (.getfield 63, (75, 3, 38), [0, 6, 7, 278], [7]),
   (.iconst 1, (78, 1, 39), [], []),
   (.iadd, (79, 1, 40), [0], []),
   (.putfield 63, (80, 3, 41), [0, 6, 7, 278, 0], [7]),
   (.aload_n 0, (83, 1, 42), [], []),
   (.getfield 22, (84, 3, 43), [2, 9, 0, 373], [0]),
   (.getfield 63, (87, 3, 44), [0, 6, 7, 278], [7]),
   (.iconst 1, (90, 1, 45), [], []),
   (.isub, (91, 1, 46), [0], []),
   (.ireturn, (92, 1, 47), [0], [])]]
def rw_X_word : List (List xq_Row) := [
  [(.iload_n 1, (0, 1, 1), [], []),
   (.invokestatic 81, (1, 3, 2), [130, 1, 0, 0, 1, 588, 589, 0, 590, 69], []),
   (.ifCond .eq 13, (4, 3, 3), [8], []),
   (.iload_n 2, (7, 1, 4), [], []),
   (.ifCond .lt 9, (8, 3, 5), [8], []),
   (.iload_n 2, (11, 1, 6), [], []),
   (.bipush 99, (12, 2, 7), [], []),
   (.if_icmp .le 6, (14, 3, 8), [10], []),
   (.bipush (-2), (17, 2, 9), [], []),
   (.ireturn, (19, 1, 10), [0], []),
   (.aload_n 0, (20, 1, 11), [], []),
   (.getfield 22, (21, 3, 12), [2, 9, 0, 373], [0]),
   (.getfield 85, (24, 3, 13), [2, 6, 0, 261], [0]),
   (.iload_n 1, (27, 1, 14), [], []),
   (.invokevirtual 89, (28, 3, 15), [75, 1, 0, 8, 0, 595, 596, 597, 598, 72], []),
   (.ifCond .lt 6, (31, 3, 16), [18], [])],
  [(.bipush (-3), (34, 2, 17), [], []),
   (.ireturn, (36, 1, 18), [0], []),
   (.aload_n 0, (37, 1, 19), [], []),
   (.getfield 22, (38, 3, 20), [2, 9, 0, 373], [0]),
   (.getfield 85, (41, 3, 21), [2, 6, 0, 261], [0]),
   (.iload_n 1, (44, 1, 22), [], []),
   (.iload_n 2, (45, 1, 23), [], []),
   (.invokevirtual 95, (46, 3, 24), [74, 2, 0, 8, 0, 599, 600, 601, 602, 72], []),
   (.ifCond .eq 18, (49, 3, 25), [32], []),
   (.aload_n 0, (52, 1, 26), [], []),
   (.getfield 22, (53, 3, 27), [2, 9, 0, 373], [0]),
   (.getfield 85, (56, 3, 28), [2, 6, 0, 261], [0]),
   (.getfield 99, (59, 3, 29), [0, 8, 5, 128], [5]),
   (.iconst 1, (62, 1, 30), [], []),
   (.isub, (63, 1, 31), [0], []),
   (.goto 5, (64, 3, 32), [33], [])],
  [(.bipush (-4), (67, 2, 33), [], []),
   (.ireturn, (69, 1, 34), [0], [])]]
def rw_X_listed : List (List xq_Row) := [
  [(.aload_n 0, (0, 1, 1), [], []),
   (.getfield 22, (1, 3, 2), [2, 9, 0, 373], [0]),
   (.getfield 85, (4, 3, 3), [2, 6, 0, 261], [0]),
   (.iload_n 1, (7, 1, 4), [], []),
   (.invokevirtual 102, (8, 3, 5), [73, 1, 0, 8, 0, 608, 609, 610, 611, 72], []),
   (.ifCond .ne 5, (11, 3, 6), [8], []),
   (.iconst (-1), (14, 1, 7), [], []),
   (.ireturn, (15, 1, 8), [0], []),
   (.iload_n 2, (16, 1, 9), [], []),
   (.tableswitch 66 0 2 #[27, 40, 53], (17, 27, 10), [31, 10, 17, 24], [0, 1, 2]),
   (.aload_n 0, (44, 1, 11), [], []),
   (.getfield 22, (45, 3, 12), [2, 9, 0, 373], [0]),
   (.getfield 85, (48, 3, 13), [2, 6, 0, 261], [0]),
   (.getfield 105, (51, 3, 14), [2, 8, 0, 115], [0]),
   (.iload_n 1, (54, 1, 15), [], []),
   (.iaload, (55, 1, 16), [], [])],
  [(.ireturn, (56, 1, 17), [0], []),
   (.aload_n 0, (57, 1, 18), [], []),
   (.getfield 22, (58, 3, 19), [2, 9, 0, 373], [0]),
   (.getfield 85, (61, 3, 20), [2, 6, 0, 261], [0]),
   (.getfield 108, (64, 3, 21), [2, 8, 1, 118], [1]),
   (.iload_n 1, (67, 1, 22), [], []),
   (.iaload, (68, 1, 23), [], []),
   (.ireturn, (69, 1, 24), [0], []),
   (.aload_n 0, (70, 1, 25), [], []),
   (.getfield 22, (71, 3, 26), [2, 9, 0, 373], [0]),
   (.getfield 85, (74, 3, 27), [2, 6, 0, 261], [0]),
   (.getfield 111, (77, 3, 28), [2, 8, 2, 120], [2]),
   (.iload_n 1, (80, 1, 29), [], []),
   (.iaload, (81, 1, 30), [], []),
   (.ireturn, (82, 1, 31), [0], []),
   (.iconst (-1), (83, 1, 32), [], [])],
  [(.ireturn, (84, 1, 33), [0], [])]]
def rw_X_weigh : List (List xq_Row) := [
  [(.aload_n 0, (0, 1, 1), [], []),
   (.getfield 22, (1, 3, 2), [2, 9, 0, 373], [0]),
   (.getfield 85, (4, 3, 3), [2, 6, 0, 261], [0]),
   (.iload_n 1, (7, 1, 4), [], []),
   (.invokevirtual 102, (8, 3, 5), [73, 1, 0, 8, 0, 608, 609, 610, 611, 72], []),
   (.ifCond .ne 5, (11, 3, 6), [8], []),
   (.iconst (-1), (14, 1, 7), [], []),
   (.ireturn, (15, 1, 8), [0], []),
   (.iload_n 2, (16, 1, 9), [], []),
   (.ifCond .lt 9, (17, 3, 10), [13], []),
   (.iload_n 2, (20, 1, 11), [], []),
   (.bipush 99, (21, 2, 12), [], []),
   (.if_icmp .le 6, (23, 3, 13), [15], []),
   (.bipush (-2), (26, 2, 14), [], []),
   (.ireturn, (28, 1, 15), [0], []),
   (.aload_n 0, (29, 1, 16), [], [])],
  [(.getfield 22, (30, 3, 17), [2, 9, 0, 373], [0]),
   (.getfield 85, (33, 3, 18), [2, 6, 0, 261], [0]),
   (.getfield 108, (36, 3, 19), [2, 8, 1, 118], [1]),
   (.iload_n 1, (39, 1, 20), [], []),
   (.iaload, (40, 1, 21), [], []),
   (.istore_n 3, (41, 1, 22), [], []),
   (.aload_n 0, (42, 1, 23), [], []),
   (.getfield 22, (43, 3, 24), [2, 9, 0, 373], [0]),
   (.getfield 85, (46, 3, 25), [2, 6, 0, 261], [0]),
   (.getfield 108, (49, 3, 26), [2, 8, 1, 118], [1]),
   (.iload_n 1, (52, 1, 27), [], []),
   (.iload_n 2, (53, 1, 28), [], []),
   (.iastore, (54, 1, 29), [], []),
   (.iload_n 3, (55, 1, 30), [], []),
   (.ireturn, (56, 1, 31), [0], [])]]
def rw_X_behind : List (List xq_Row) := [
  [(.aload_n 0, (0, 1, 1), [], []),
   (.getfield 22, (1, 3, 2), [2, 9, 0, 373], [0]),
   (.getfield 85, (4, 3, 3), [2, 6, 0, 261], [0]),
   (.iload_n 1, (7, 1, 4), [], []),
   (.invokevirtual 102, (8, 3, 5), [73, 1, 0, 8, 0, 608, 609, 610, 611, 72], []),
   (.ifCond .eq 17, (11, 3, 6), [12], []),
   (.aload_n 0, (14, 1, 7), [], []),
   (.getfield 22, (15, 3, 8), [2, 9, 0, 373], [0]),
   (.getfield 85, (18, 3, 9), [2, 6, 0, 261], [0]),
   (.iload_n 2, (21, 1, 10), [], []),
   (.invokevirtual 102, (22, 3, 11), [73, 1, 0, 8, 0, 608, 609, 610, 611, 72], []),
   (.ifCond .ne 5, (25, 3, 12), [14], []),
   (.iconst (-1), (28, 1, 13), [], []),
   (.ireturn, (29, 1, 14), [0], []),
   (.aload_n 0, (30, 1, 15), [], []),
   (.getfield 22, (31, 3, 16), [2, 9, 0, 373], [0])],
  [(.getfield 85, (34, 3, 17), [2, 6, 0, 261], [0]),
   (.getfield 111, (37, 3, 18), [2, 8, 2, 120], [2]),
   (.iload_n 1, (40, 1, 19), [], []),
   (.iaload, (41, 1, 20), [], []),
   (.istore 4, (42, 2, 21), [], []),
   (.iconst 1, (44, 1, 22), [], []),
   (.iload_n 2, (45, 1, 23), [], []),
   (.ishl, (46, 1, 24), [], []),
   (.istore 5, (47, 2, 25), [], []),
   (.aload_n 0, (49, 1, 26), [], []),
   (.getfield 22, (50, 3, 27), [2, 9, 0, 373], [0]),
   (.getfield 85, (53, 3, 28), [2, 6, 0, 261], [0]),
   (.getfield 111, (56, 3, 29), [2, 8, 2, 120], [2]),
   (.iload_n 1, (59, 1, 30), [], []),
   (.iload_n 3, (60, 1, 31), [], []),
   (.ifCond .eq 11, (61, 3, 32), [36], [])],
  [(.iload 4, (64, 2, 33), [], []),
   (.iload 5, (66, 2, 34), [], []),
   (.ior, (68, 1, 35), [], []),
   (.goto 10, (69, 3, 36), [41], []),
   (.iload 4, (72, 2, 37), [], []),
   (.iload 5, (74, 2, 38), [], []),
   (.iconst (-1), (76, 1, 39), [], []),
   (.ixor, (77, 1, 40), [], []),
   (.iand, (78, 1, 41), [], []),
   (.iastore, (79, 1, 42), [], []),
   (.iload 4, (80, 2, 43), [], []),
   (.iload 5, (82, 2, 44), [], []),
   (.iand, (84, 1, 45), [], []),
   (.ifCond .eq 7, (85, 3, 46), [48], []),
   (.iconst 1, (88, 1, 47), [], []),
   (.goto 4, (89, 3, 48), [49], [])],
  [(.iconst 0, (92, 1, 49), [], []),
   (.ireturn, (93, 1, 50), [0], [])]]
def rw_X_mender : List (List xq_Row) := [
  [(.iload_n 1, (0, 1, 1), [], []),
   (.ifCond .lt 9, (1, 3, 2), [5], []),
   (.iload_n 1, (4, 1, 3), [], []),
   (.bipush 7, (5, 2, 4), [], []),
   (.if_icmp .lt 5, (7, 3, 5), [7], []),
   (.iconst (-1), (10, 1, 6), [], []),
   (.ireturn, (11, 1, 7), [0], []),
   (.iload_n 2, (12, 1, 8), [], []),
   (.ifCond .lt 9, (13, 3, 9), [12], []),
   (.iload_n 2, (16, 1, 10), [], []),
   (.bipush 9, (17, 2, 11), [], []),
   (.if_icmp .le 6, (19, 3, 12), [14], []),
   (.bipush (-2), (22, 2, 13), [], []),
   (.ireturn, (24, 1, 14), [0], []),
   (.aload_n 0, (25, 1, 15), [], []),
   (.getfield 22, (26, 3, 16), [2, 9, 0, 373], [0])],
  [(.getfield 114, (29, 3, 17), [2, 6, 1, 264], [1]),
   (.iload_n 1, (32, 1, 18), [], []),
   (.iload_n 2, (33, 1, 19), [], []),
   (.invokevirtual 118, (34, 3, 20), [27, 2, 0, 2, 0, 624, 625, 626, 627, 73], []),
   (.ifCond .eq 18, (37, 3, 21), [28], []),
   (.aload_n 0, (40, 1, 22), [], []),
   (.getfield 22, (41, 3, 23), [2, 9, 0, 373], [0]),
   (.getfield 114, (44, 3, 24), [2, 6, 1, 264], [1]),
   (.getfield 121, (47, 3, 25), [0, 2, 3, 160], [3]),
   (.iconst 1, (50, 1, 26), [], []),
   (.isub, (51, 1, 27), [0], []),
   (.goto 5, (52, 3, 28), [29], []),
   (.bipush (-4), (55, 2, 29), [], []),
   (.ireturn, (57, 1, 30), [0], [])]]
def rw_X_of : List (List xq_Row) := [
  [(.aload_n 0, (0, 1, 1), [], []),
   (.getfield 22, (1, 3, 2), [2, 9, 0, 373], [0]),
   (.getfield 114, (4, 3, 3), [2, 6, 1, 264], [1]),
   (.iload_n 1, (7, 1, 4), [], []),
   (.invokevirtual 122, (8, 3, 5), [26, 1, 0, 2, 0, 632, 633, 634, 635, 73], []),
   (.ifCond .ne 5, (11, 3, 6), [8], []),
   (.iconst (-1), (14, 1, 7), [], []),
   (.ireturn, (15, 1, 8), [0], []),
   (.iload_n 2, (16, 1, 9), [], []),
   (.lookupswitch 53 #[(0, 27), (1, 40)], (17, 27, 10), [24, 10, 17], [0, 1]),
   (.aload_n 0, (44, 1, 11), [], []),
   (.getfield 22, (45, 3, 12), [2, 9, 0, 373], [0]),
   (.getfield 114, (48, 3, 13), [2, 6, 1, 264], [1]),
   (.getfield 123, (51, 3, 14), [2, 2, 0, 152], [0]),
   (.iload_n 1, (54, 1, 15), [], []),
   (.iaload, (55, 1, 16), [], [])],
  [(.ireturn, (56, 1, 17), [0], []),
   (.aload_n 0, (57, 1, 18), [], []),
   (.getfield 22, (58, 3, 19), [2, 9, 0, 373], [0]),
   (.getfield 114, (61, 3, 20), [2, 6, 1, 264], [1]),
   (.getfield 126, (64, 3, 21), [2, 2, 1, 155], [1]),
   (.iload_n 1, (67, 1, 22), [], []),
   (.iaload, (68, 1, 23), [], []),
   (.ireturn, (69, 1, 24), [0], []),
   (.iconst (-1), (70, 1, 25), [], []),
   (.ireturn, (71, 1, 26), [0], [])]]
def rw_X_row : List (List xq_Row) := [
  [(.aload_n 0, (0, 1, 1), [], []),
   (.getfield 22, (1, 3, 2), [2, 9, 0, 373], [0]),
   (.getfield 114, (4, 3, 3), [2, 6, 1, 264], [1]),
   (.iload_n 1, (7, 1, 4), [], []),
   (.invokevirtual 122, (8, 3, 5), [26, 1, 0, 2, 0, 632, 633, 634, 635, 73], []),
   (.ifCond .eq 12, (11, 3, 6), [11], []),
   (.iload_n 2, (14, 1, 7), [], []),
   (.ifCond .lt 8, (15, 3, 8), [11], []),
   (.iload_n 2, (18, 1, 9), [], []),
   (.iconst 4, (19, 1, 10), [], []),
   (.if_icmp .lt 5, (20, 3, 11), [13], []),
   (.iconst (-1), (23, 1, 12), [], []),
   (.ireturn, (24, 1, 13), [0], []),
   (.iload_n 3, (25, 1, 14), [], []),
   (.ifCond .lt 9, (26, 3, 15), [18], []),
   (.iload_n 3, (29, 1, 16), [], [])],
  [(.bipush 9, (30, 2, 17), [], []),
   (.if_icmp .le 6, (32, 3, 18), [20], []),
   (.bipush (-2), (35, 2, 19), [], []),
   (.ireturn, (37, 1, 20), [0], []),
   (.aload_n 0, (38, 1, 21), [], []),
   (.getfield 22, (39, 3, 22), [2, 9, 0, 373], [0]),
   (.getfield 114, (42, 3, 23), [2, 6, 1, 264], [1]),
   (.getfield 123, (45, 3, 24), [2, 2, 0, 152], [0]),
   (.iload_n 1, (48, 1, 25), [], []),
   (.iaload, (49, 1, 26), [], []),
   (.bipush 6, (50, 2, 27), [], []),
   (.if_icmp .eq 6, (52, 3, 28), [30], []),
   (.bipush (-3), (55, 2, 29), [], []),
   (.ireturn, (57, 1, 30), [0], []),
   (.iload_n 1, (58, 1, 31), [], []),
   (.iconst 4, (59, 1, 32), [], [])],
  [(.imul, (60, 1, 33), [0], []),
   (.iload_n 2, (61, 1, 34), [], []),
   (.iadd, (62, 1, 35), [0], []),
   (.istore 4, (63, 2, 36), [], []),
   (.aload_n 0, (65, 1, 37), [], []),
   (.getfield 22, (66, 3, 38), [2, 9, 0, 373], [0]),
   (.getfield 114, (69, 3, 39), [2, 6, 1, 264], [1]),
   (.getfield 129, (72, 3, 40), [2, 2, 2, 157], [2]),
   (.iload 4, (75, 2, 41), [], []),
   (.iaload, (77, 1, 42), [], []),
   (.istore 5, (78, 2, 43), [], []),
   (.aload_n 0, (80, 1, 44), [], []),
   (.getfield 22, (81, 3, 45), [2, 9, 0, 373], [0]),
   (.getfield 114, (84, 3, 46), [2, 6, 1, 264], [1]),
   (.getfield 129, (87, 3, 47), [2, 2, 2, 157], [2]),
   (.iload 4, (90, 2, 48), [], [])],
  [(.iload_n 3, (92, 1, 49), [], []),
   (.iastore, (93, 1, 50), [], []),
   (.iload 5, (94, 2, 51), [], []),
   (.ireturn, (96, 1, 52), [0], [])]]
def rw_X_type : List (List xq_Row) := [
  [(.aload_n 0, (0, 1, 1), [], []),
   (.getfield 22, (1, 3, 2), [2, 9, 0, 373], [0]),
   (.getfield 114, (4, 3, 3), [2, 6, 1, 264], [1]),
   (.iload_n 1, (7, 1, 4), [], []),
   (.invokevirtual 122, (8, 3, 5), [26, 1, 0, 2, 0, 632, 633, 634, 635, 73], []),
   (.ifCond .ne 5, (11, 3, 6), [8], []),
   (.iconst (-1), (14, 1, 7), [], []),
   (.ireturn, (15, 1, 8), [0], []),
   (.iload_n 2, (16, 1, 9), [], []),
   (.invokestatic 81, (17, 3, 10), [130, 1, 0, 0, 1, 588, 589, 0, 590, 69], []),
   (.ifCond .ne 6, (20, 3, 11), [13], []),
   (.bipush (-2), (23, 2, 12), [], []),
   (.ireturn, (25, 1, 13), [0], []),
   (.aload_n 0, (26, 1, 14), [], []),
   (.getfield 22, (27, 3, 15), [2, 9, 0, 373], [0]),
   (.getfield 132, (30, 3, 16), [2, 6, 2, 267], [2])],
  [(.getfield 136, (33, 3, 17), [0, 7, 3, 183], [3]),
   (.bipush 20, (36, 2, 18), [], []),
   (.if_icmp .lt 6, (38, 3, 19), [21], []),
   (.bipush (-4), (41, 2, 20), [], []),
   (.ireturn, (43, 1, 21), [0], []),
   (.aload_n 0, (44, 1, 22), [], []),
   (.getfield 12, (45, 3, 23), [2, 9, 4, 377], [4]),
   (.invokevirtual 139, (48, 3, 24), [30, 0, 0, 3, 0, 644, 645, 646, 647, 70], []),
   (.aload_n 0, (51, 1, 25), [], []),
   (.getfield 12, (52, 3, 26), [2, 9, 4, 377], [4]),
   (.iload_n 1, (55, 1, 27), [], []),
   (.iload_n 2, (56, 1, 28), [], []),
   (.invokevirtual 142, (57, 3, 29), [31, 2, 0, 3, 0, 654, 655, 656, 657, 70], []),
   (.istore_n 3, (60, 1, 30), [], []),
   (.aload_n 0, (61, 1, 31), [], []),
   (.getfield 12, (62, 3, 32), [2, 9, 4, 377], [4])],
  [(.getfield 146, (65, 3, 33), [2, 3, 1, 299], [1]),
   (.aload_n 0, (68, 1, 34), [], []),
   (.getfield 22, (69, 3, 35), [2, 9, 0, 373], [0]),
   (.getfield 85, (72, 3, 36), [2, 6, 0, 261], [0]),
   (.getfield 108, (75, 3, 37), [2, 8, 1, 118], [1]),
   (.invokestatic 147, (78, 3, 38), [127, 2, 0, 0, 1, 716, 580, 0, 581, 69], []),
   (.aload_n 0, (81, 1, 39), [], []),
   (.getfield 22, (82, 3, 40), [2, 9, 0, 373], [0]),
   (.getfield 132, (85, 3, 41), [2, 6, 2, 267], [2]),
   (.aload_n 0, (88, 1, 42), [], []),
   (.getfield 12, (89, 3, 43), [2, 9, 4, 377], [4]),
   (.getfield 151, (92, 3, 44), [0, 3, 2, 301], [2]),
   (.putfield 154, (95, 3, 45), [0, 7, 4, 186, 0], [4]),
   (.aload_n 0, (98, 1, 46), [], []),
   (.getfield 22, (99, 3, 47), [2, 9, 0, 373], [0]),
   (.getfield 132, (102, 3, 48), [2, 6, 2, 267], [2])],
  [(.iload_n 3, (105, 1, 49), [], []),
   (.iload_n 2, (106, 1, 50), [], []),
   (.invokevirtual 155, (107, 3, 51), [67, 2, 0, 7, 0, 717, 718, 719, 720, 74], []),
   (.iload_n 3, (110, 1, 52), [], []),
   (.ireturn, (111, 1, 53), [0], [])]]
def rw_X_back : List (List xq_Row) := [
  [(.aload_n 0, (0, 1, 1), [], []),
   (.getfield 22, (1, 3, 2), [2, 9, 0, 373], [0]),
   (.getfield 132, (4, 3, 3), [2, 6, 2, 267], [2]),
   (.invokevirtual 158, (7, 3, 4), [69, 0, 0, 7, 0, 725, 726, 727, 728, 74], []),
   (.ifCond .eq 16, (10, 3, 5), [10], []),
   (.aload_n 0, (13, 1, 6), [], []),
   (.getfield 22, (14, 3, 7), [2, 9, 0, 373], [0]),
   (.getfield 132, (17, 3, 8), [2, 6, 2, 267], [2]),
   (.invokevirtual 162, (20, 3, 9), [68, 0, 0, 7, 0, 730, 650, 651, 652, 74], []),
   (.goto 5, (23, 3, 10), [11], []),
   (.bipush (-3), (26, 2, 11), [], []),
   (.ireturn, (28, 1, 12), [0], [])]]
def rw_X_send : List (List xq_Row) := [
  [(.aload_n 0, (0, 1, 1), [], []),
   (.getfield 22, (1, 3, 2), [2, 9, 0, 373], [0]),
   (.getfield 132, (4, 3, 3), [2, 6, 2, 267], [2]),
   (.getfield 136, (7, 3, 4), [0, 7, 3, 183], [3]),
   (.istore_n 1, (10, 1, 5), [], []),
   (.aload_n 0, (11, 1, 6), [], []),
   (.getfield 22, (12, 3, 7), [2, 9, 0, 373], [0]),
   (.getfield 132, (15, 3, 8), [2, 6, 2, 267], [2]),
   (.iconst 0, (18, 1, 9), [], []),
   (.putfield 136, (19, 3, 10), [0, 7, 3, 183, 0], [3]),
   (.iload_n 1, (22, 1, 11), [], []),
   (.ireturn, (23, 1, 12), [0], [])]]
def rw_X_told : List (List xq_Row) := [
  [(.aload_n 0, (0, 1, 1), [], []),
   (.getfield 22, (1, 3, 2), [2, 9, 0, 373], [0]),
   (.getfield 132, (4, 3, 3), [2, 6, 2, 267], [2]),
   (.astore_n 2, (7, 1, 4), [], []),
   (.iload_n 1, (8, 1, 5), [], []),
   (.tableswitch 63 0 3 #[31, 36, 47, 58], (9, 31, 6), [22, 6, 9, 14, 19], [0, 1, 2, 3]),
   (.aload_n 2, (40, 1, 7), [], []),
   (.getfield 154, (41, 3, 8), [0, 7, 4, 186], [4]),
   (.ireturn, (44, 1, 9), [0], []),
   (.aload_n 0, (45, 1, 10), [], []),
   (.getfield 22, (46, 3, 11), [2, 9, 0, 373], [0]),
   (.getfield 70, (49, 3, 12), [2, 6, 3, 269], [3]),
   (.getfield 166, (52, 3, 13), [0, 4, 0, 211], [0]),
   (.ireturn, (55, 1, 14), [0], []),
   (.aload_n 0, (56, 1, 15), [], []),
   (.getfield 22, (57, 3, 16), [2, 9, 0, 373], [0])],
  [(.getfield 70, (60, 3, 17), [2, 6, 3, 269], [3]),
   (.getfield 169, (63, 3, 18), [0, 4, 1, 215], [1]),
   (.ireturn, (66, 1, 19), [0], []),
   (.aload_n 2, (67, 1, 20), [], []),
   (.getfield 172, (68, 3, 21), [0, 7, 5, 188], [5]),
   (.ireturn, (71, 1, 22), [0], []),
   (.iload_n 1, (72, 1, 23), [], []),
   (.bipush 10, (73, 2, 24), [], []),
   (.isub, (75, 1, 25), [1], []),
   (.aload_n 2, (76, 1, 26), [], []),
   (.getfield 136, (77, 3, 27), [0, 7, 3, 183], [3]),
   (.invokestatic 175, (80, 3, 28), [126, 2, 0, 0, 1, 739, 740, 0, 741, 69], []),
   (.ifCond .eq 13, (83, 3, 29), [36], []),
   (.aload_n 2, (86, 1, 30), [], []),
   (.getfield 178, (87, 3, 31), [2, 7, 0, 177], [0]),
   (.iload_n 1, (90, 1, 32), [], [])],
  [(.bipush 10, (91, 2, 33), [], []),
   (.isub, (93, 1, 34), [1], []),
   (.iaload, (94, 1, 35), [], []),
   (.ireturn, (95, 1, 36), [0], []),
   (.iload_n 1, (96, 1, 37), [], []),
   (.bipush 40, (97, 2, 38), [], []),
   (.isub, (99, 1, 39), [1], []),
   (.aload_n 2, (100, 1, 40), [], []),
   (.getfield 136, (101, 3, 41), [0, 7, 3, 183], [3]),
   (.invokestatic 175, (104, 3, 42), [126, 2, 0, 0, 1, 739, 740, 0, 741, 69], []),
   (.ifCond .eq 13, (107, 3, 43), [50], []),
   (.aload_n 2, (110, 1, 44), [], []),
   (.getfield 181, (111, 3, 45), [2, 7, 1, 179], [1]),
   (.iload_n 1, (114, 1, 46), [], []),
   (.bipush 40, (115, 2, 47), [], []),
   (.isub, (117, 1, 48), [1], [])],
  [(.iaload, (118, 1, 49), [], []),
   (.ireturn, (119, 1, 50), [0], []),
   (.iload_n 1, (120, 1, 51), [], []),
   (.bipush 70, (121, 2, 52), [], []),
   (.isub, (123, 1, 53), [1], []),
   (.aload_n 2, (124, 1, 54), [], []),
   (.getfield 172, (125, 3, 55), [0, 7, 5, 188], [5]),
   (.invokestatic 175, (128, 3, 56), [126, 2, 0, 0, 1, 739, 740, 0, 741, 69], []),
   (.ifCond .eq 13, (131, 3, 57), [64], []),
   (.aload_n 2, (134, 1, 58), [], []),
   (.getfield 184, (135, 3, 59), [2, 7, 2, 181], [2]),
   (.iload_n 1, (138, 1, 60), [], []),
   (.bipush 70, (139, 2, 61), [], []),
   (.isub, (141, 1, 62), [1], []),
   (.iaload, (142, 1, 63), [], []),
   (.ireturn, (143, 1, 64), [0], [])],
  [(.iconst (-1), (144, 1, 65), [], []),
   (.ireturn, (145, 1, 66), [0], [])]]
def rw_X_makes : List (List xq_Row) := [
  [(.aload_n 0, (0, 1, 1), [], []),
   (.iload_n 1, (1, 1, 2), [], []),
   (.iload_n 2, (2, 1, 3), [], []),
   (.invokevirtual 187, (3, 3, 4), [120, 2, 0, 9, 0, 746, 748, 17, 749, 69], []),
   (.istore_n 3, (6, 1, 5), [], []),
   (.iload_n 3, (7, 1, 6), [], []),
   (.ifCond .eq 5, (8, 3, 7), [9], []),
   (.iload_n 3, (11, 1, 8), [], []),
   (.ireturn, (12, 1, 9), [0], []),
   (.aload_n 0, (13, 1, 10), [], []),
   (.getfield 12, (14, 3, 11), [2, 9, 4, 377], [4]),
   (.invokevirtual 139, (17, 3, 12), [30, 0, 0, 3, 0, 644, 645, 646, 647, 70], []),
   (.aload_n 0, (20, 1, 13), [], []),
   (.getfield 12, (21, 3, 14), [2, 9, 4, 377], [4]),
   (.iload_n 1, (24, 1, 15), [], []),
   (.iload_n 2, (25, 1, 16), [], [])],
  [(.invokevirtual 190, (26, 3, 17), [32, 2, 0, 3, 0, 750, 659, 660, 661, 70], []),
   (.ireturn, (29, 1, 18), [0], [])]]
def rw_X_cost : List (List xq_Row) := [
  [(.aload_n 0, (0, 1, 1), [], []),
   (.getfield 22, (1, 3, 2), [2, 9, 0, 373], [0]),
   (.getfield 114, (4, 3, 3), [2, 6, 1, 264], [1]),
   (.iload_n 1, (7, 1, 4), [], []),
   (.invokevirtual 122, (8, 3, 5), [26, 1, 0, 2, 0, 632, 633, 634, 635, 73], []),
   (.ifCond .eq 28, (11, 3, 6), [17], []),
   (.aload_n 0, (14, 1, 7), [], []),
   (.getfield 22, (15, 3, 8), [2, 9, 0, 373], [0]),
   (.getfield 85, (18, 3, 9), [2, 6, 0, 261], [0]),
   (.iload_n 3, (21, 1, 10), [], []),
   (.invokevirtual 102, (22, 3, 11), [73, 1, 0, 8, 0, 608, 609, 610, 611, 72], []),
   (.ifCond .eq 14, (25, 3, 12), [17], []),
   (.iload 4, (28, 2, 13), [], []),
   (.ifCond .lt 9, (30, 3, 14), [17], []),
   (.iload 4, (33, 2, 15), [], []),
   (.iconst 1, (35, 1, 16), [], [])],
  [(.if_icmp .le 7, (36, 3, 17), [19], []),
   (.sipush (-10001), (39, 3, 18), [], []),
   (.ireturn, (42, 1, 19), [0], []),
   (.iload_n 2, (43, 1, 20), [], []),
   (.invokestatic 81, (44, 3, 21), [130, 1, 0, 0, 1, 588, 589, 0, 590, 69], []),
   (.ifCond .ne 7, (47, 3, 22), [24], []),
   (.sipush (-10002), (50, 3, 23), [], []),
   (.ireturn, (53, 1, 24), [0], []),
   (.aload_n 0, (54, 1, 25), [], []),
   (.getfield 12, (55, 3, 26), [2, 9, 4, 377], [4]),
   (.invokevirtual 139, (58, 3, 27), [30, 0, 0, 3, 0, 644, 645, 646, 647, 70], []),
   (.iload 4, (61, 2, 28), [], []),
   (.ifCond .ne 16, (63, 3, 29), [36], []),
   (.aload_n 0, (66, 1, 30), [], []),
   (.getfield 12, (67, 3, 31), [2, 9, 4, 377], [4]),
   (.iload_n 1, (70, 1, 32), [], [])],
  [(.iload_n 2, (71, 1, 33), [], []),
   (.iload_n 3, (72, 1, 34), [], []),
   (.invokevirtual 193, (73, 3, 35), [33, 3, 0, 3, 0, 755, 756, 757, 758, 70], []),
   (.goto 13, (76, 3, 36), [42], []),
   (.aload_n 0, (79, 1, 37), [], []),
   (.getfield 12, (80, 3, 38), [2, 9, 4, 377], [4]),
   (.iload_n 1, (83, 1, 39), [], []),
   (.iload_n 2, (84, 1, 40), [], []),
   (.iload_n 3, (85, 1, 41), [], []),
   (.invokevirtual 197, (86, 3, 42), [34, 3, 0, 3, 0, 759, 760, 761, 762, 70], []),
   (.ireturn, (89, 1, 43), [0], [])]]
def rw_X_stays : List (List xq_Row) := [
  [(.aload_n 0, (0, 1, 1), [], []),
   (.getfield 22, (1, 3, 2), [2, 9, 0, 373], [0]),
   (.getfield 114, (4, 3, 3), [2, 6, 1, 264], [1]),
   (.iload_n 1, (7, 1, 4), [], []),
   (.invokevirtual 122, (8, 3, 5), [26, 1, 0, 2, 0, 632, 633, 634, 635, 73], []),
   (.ifCond .ne 5, (11, 3, 6), [8], []),
   (.iconst (-1), (14, 1, 7), [], []),
   (.ireturn, (15, 1, 8), [0], []),
   (.aload_n 0, (16, 1, 9), [], []),
   (.getfield 12, (17, 3, 10), [2, 9, 4, 377], [4]),
   (.invokevirtual 139, (20, 3, 11), [30, 0, 0, 3, 0, 644, 645, 646, 647, 70], []),
   (.iconst 0, (23, 1, 12), [], []),
   (.istore_n 2, (24, 1, 13), [], []),
   (.iconst 0, (25, 1, 14), [], []),
   (.istore_n 3, (26, 1, 15), [], []),
   (.iload_n 3, (27, 1, 16), [], [])],
  [(.aload_n 0, (28, 1, 17), [], []),
   (.getfield 22, (29, 3, 18), [2, 9, 0, 373], [0]),
   (.getfield 85, (32, 3, 19), [2, 6, 0, 261], [0]),
   (.getfield 99, (35, 3, 20), [0, 8, 5, 128], [5]),
   (.if_icmp .ge 24, (38, 3, 21), [34], []),
   (.aload_n 0, (41, 1, 22), [], []),
   (.iload_n 1, (42, 1, 23), [], []),
   (.iload_n 3, (43, 1, 24), [], []),
   (.invokevirtual 200, (44, 3, 25), [121, 2, 0, 9, 0, 768, 770, 18, 771, 69], []),
   (.ifCond .eq 9, (47, 3, 26), [32], []),
   (.iload_n 2, (50, 1, 27), [], []),
   (.iconst 1, (51, 1, 28), [], []),
   (.iload_n 3, (52, 1, 29), [], []),
   (.ishl, (53, 1, 30), [], []),
   (.ior, (54, 1, 31), [], []),
   (.istore_n 2, (55, 1, 32), [], [])],
  [(.iinc 3 1, (56, 3, 33), [], []),
   (.goto (-32), (59, 3, 34), [15], []),
   (.iload_n 2, (62, 1, 35), [], []),
   (.ireturn, (63, 1, 36), [0], [])]]
def rw_X_touches : List (List xq_Row) := [
  [(.aload_n 0, (0, 1, 1), [], []),
   (.getfield 22, (1, 3, 2), [2, 9, 0, 373], [0]),
   (.getfield 114, (4, 3, 3), [2, 6, 1, 264], [1]),
   (.iload_n 1, (7, 1, 4), [], []),
   (.invokevirtual 122, (8, 3, 5), [26, 1, 0, 2, 0, 632, 633, 634, 635, 73], []),
   (.ifCond .eq 12, (11, 3, 6), [11], []),
   (.iload_n 3, (14, 1, 7), [], []),
   (.ifCond .lt 8, (15, 3, 8), [11], []),
   (.iload_n 3, (18, 1, 9), [], []),
   (.iconst 2, (19, 1, 10), [], []),
   (.if_icmp .le 5, (20, 3, 11), [13], []),
   (.iconst (-1), (23, 1, 12), [], []),
   (.ireturn, (24, 1, 13), [0], []),
   (.iload_n 2, (25, 1, 14), [], []),
   (.invokestatic 81, (26, 3, 15), [130, 1, 0, 0, 1, 588, 589, 0, 590, 69], []),
   (.ifCond .ne 6, (29, 3, 16), [18], [])],
  [(.bipush (-2), (32, 2, 17), [], []),
   (.ireturn, (34, 1, 18), [0], []),
   (.aload_n 0, (35, 1, 19), [], []),
   (.getfield 12, (36, 3, 20), [2, 9, 4, 377], [4]),
   (.invokevirtual 139, (39, 3, 21), [30, 0, 0, 3, 0, 644, 645, 646, 647, 70], []),
   (.aload_n 0, (42, 1, 22), [], []),
   (.iload_n 1, (43, 1, 23), [], []),
   (.iload_n 2, (44, 1, 24), [], []),
   (.invokevirtual 203, (45, 3, 25), [122, 2, 0, 9, 0, 776, 778, 19, 779, 69], []),
   (.istore 4, (48, 2, 26), [], []),
   (.iload_n 2, (50, 1, 27), [], []),
   (.invokestatic 206, (51, 3, 28), [131, 1, 0, 0, 1, 591, 592, 0, 593, 69], []),
   (.iconst 2, (54, 1, 29), [], []),
   (.iadd, (55, 1, 30), [0], []),
   (.istore 5, (56, 2, 31), [], []),
   (.iload 4, (58, 2, 32), [], [])],
  [(.ifCond .eq 15, (60, 3, 33), [39], []),
   (.iload 4, (63, 2, 34), [], []),
   (.invokestatic 206, (65, 3, 35), [131, 1, 0, 0, 1, 591, 592, 0, 593, 69], []),
   (.iconst 1, (68, 1, 36), [], []),
   (.iadd, (69, 1, 37), [0], []),
   (.iload 5, (70, 2, 38), [], []),
   (.if_icmp .le 7, (72, 3, 39), [41], []),
   (.iconst 1, (75, 1, 40), [], []),
   (.goto 4, (76, 3, 41), [42], []),
   (.iconst 0, (79, 1, 42), [], []),
   (.istore 6, (80, 2, 43), [], []),
   (.iload_n 3, (82, 1, 44), [], []),
   (.lookupswitch 55 #[(0, 25), (1, 43)], (83, 25, 45), [60, 45, 54], [0, 1]),
   (.iload 6, (108, 2, 46), [], []),
   (.ifCond .eq 8, (110, 3, 47), [49], []),
   (.iload 5, (113, 2, 48), [], [])],
  [(.goto 10, (115, 3, 49), [53], []),
   (.iload 4, (118, 2, 50), [], []),
   (.invokestatic 206, (120, 3, 51), [131, 1, 0, 0, 1, 591, 592, 0, 593, 69], []),
   (.iconst 1, (123, 1, 52), [], []),
   (.iadd, (124, 1, 53), [0], []),
   (.ireturn, (125, 1, 54), [0], []),
   (.iload 6, (126, 2, 55), [], []),
   (.ifCond .eq 7, (128, 3, 56), [58], []),
   (.iload_n 2, (131, 1, 57), [], []),
   (.goto 5, (132, 3, 58), [59], []),
   (.iload 4, (135, 2, 59), [], []),
   (.ireturn, (137, 1, 60), [0], []),
   (.iload 6, (138, 2, 61), [], []),
   (.ifCond .eq 7, (140, 3, 62), [64], []),
   (.iconst 1, (143, 1, 63), [], []),
   (.goto 4, (144, 3, 64), [65], [])],
  [(.iconst 0, (147, 1, 65), [], []),
   (.ireturn, (148, 1, 66), [0], [])]]
def rw_X_never : List (List xq_Row) := [
  [(.aload_n 0, (0, 1, 1), [], []),
   (.getfield 22, (1, 3, 2), [2, 9, 0, 373], [0]),
   (.getfield 114, (4, 3, 3), [2, 6, 1, 264], [1]),
   (.iload_n 1, (7, 1, 4), [], []),
   (.invokevirtual 122, (8, 3, 5), [26, 1, 0, 2, 0, 632, 633, 634, 635, 73], []),
   (.ifCond .ne 5, (11, 3, 6), [8], []),
   (.iconst (-1), (14, 1, 7), [], []),
   (.ireturn, (15, 1, 8), [0], []),
   (.aload_n 0, (16, 1, 9), [], []),
   (.getfield 12, (17, 3, 10), [2, 9, 4, 377], [4]),
   (.invokevirtual 139, (20, 3, 11), [30, 0, 0, 3, 0, 644, 645, 646, 647, 70], []),
   (.aload_n 0, (23, 1, 12), [], []),
   (.iload_n 1, (24, 1, 13), [], []),
   (.invokevirtual 209, (25, 3, 14), [123, 1, 0, 9, 0, 784, 786, 20, 787, 69], []),
   (.pop, (28, 1, 15), [], []),
   (.iconst 0, (29, 1, 16), [], [])],
  [(.istore_n 2, (30, 1, 17), [], []),
   (.iconst 0, (31, 1, 18), [], []),
   (.istore_n 3, (32, 1, 19), [], []),
   (.iload_n 3, (33, 1, 20), [], []),
   (.aload_n 0, (34, 1, 21), [], []),
   (.getfield 22, (35, 3, 22), [2, 9, 0, 373], [0]),
   (.getfield 85, (38, 3, 23), [2, 6, 0, 261], [0]),
   (.getfield 99, (41, 3, 24), [0, 8, 5, 128], [5]),
   (.if_icmp .ge 33, (44, 3, 25), [43], []),
   (.aload_n 0, (47, 1, 26), [], []),
   (.getfield 49, (48, 3, 27), [2, 9, 6, 379], [6]),
   (.iload_n 3, (51, 1, 28), [], []),
   (.iaload, (52, 1, 29), [], []),
   (.ifCond .ne 18, (53, 3, 30), [41], []),
   (.aload_n 0, (56, 1, 31), [], []),
   (.iload_n 1, (57, 1, 32), [], [])],
  [(.iload_n 3, (58, 1, 33), [], []),
   (.invokevirtual 200, (59, 3, 34), [121, 2, 0, 9, 0, 768, 770, 18, 771, 69], []),
   (.ifCond .ne 9, (62, 3, 35), [41], []),
   (.iload_n 2, (65, 1, 36), [], []),
   (.iconst 1, (66, 1, 37), [], []),
   (.iload_n 3, (67, 1, 38), [], []),
   (.ishl, (68, 1, 39), [], []),
   (.ior, (69, 1, 40), [], []),
   (.istore_n 2, (70, 1, 41), [], []),
   (.iinc 3 1, (71, 3, 42), [], []),
   (.goto (-41), (74, 3, 43), [19], []),
   (.iload_n 2, (77, 1, 44), [], []),
   (.ireturn, (78, 1, 45), [0], [])]]
def rw_X_round : List (List xq_Row) := [
  [(.aload_n 0, (0, 1, 1), [], []),
   (.getfield 22, (1, 3, 2), [2, 9, 0, 373], [0]),
   (.getfield 114, (4, 3, 3), [2, 6, 1, 264], [1]),
   (.iload_n 1, (7, 1, 4), [], []),
   (.invokevirtual 122, (8, 3, 5), [26, 1, 0, 2, 0, 632, 633, 634, 635, 73], []),
   (.ifCond .eq 12, (11, 3, 6), [11], []),
   (.iload_n 3, (14, 1, 7), [], []),
   (.ifCond .lt 8, (15, 3, 8), [11], []),
   (.iload_n 3, (18, 1, 9), [], []),
   (.iconst 1, (19, 1, 10), [], []),
   (.if_icmp .le 5, (20, 3, 11), [13], []),
   (.iconst (-1), (23, 1, 12), [], []),
   (.ireturn, (24, 1, 13), [0], []),
   (.iload_n 2, (25, 1, 14), [], []),
   (.invokestatic 81, (26, 3, 15), [130, 1, 0, 0, 1, 588, 589, 0, 590, 69], []),
   (.ifCond .ne 6, (29, 3, 16), [18], [])],
  [(.bipush (-2), (32, 2, 17), [], []),
   (.ireturn, (34, 1, 18), [0], []),
   (.aload_n 0, (35, 1, 19), [], []),
   (.getfield 12, (36, 3, 20), [2, 9, 4, 377], [4]),
   (.invokevirtual 139, (39, 3, 21), [30, 0, 0, 3, 0, 644, 645, 646, 647, 70], []),
   (.aload_n 0, (42, 1, 22), [], []),
   (.getfield 53, (43, 3, 23), [2, 9, 7, 380], [7]),
   (.iconst 0, (46, 1, 24), [], []),
   (.iload_n 2, (47, 1, 25), [], []),
   (.iastore, (48, 1, 26), [], []),
   (.iconst 1, (49, 1, 27), [], []),
   (.istore 4, (50, 2, 28), [], []),
   (.iload 4, (52, 2, 29), [], []),
   (.aload_n 0, (54, 1, 30), [], []),
   (.getfield 53, (55, 3, 31), [2, 9, 7, 380], [7]),
   (.arraylength, (58, 1, 32), [], [])],
  [(.if_icmp .ge 81, (59, 3, 33), [73], []),
   (.aload_n 0, (62, 1, 34), [], []),
   (.getfield 53, (63, 3, 35), [2, 9, 7, 380], [7]),
   (.iload 4, (66, 2, 36), [], []),
   (.aload_n 0, (68, 1, 37), [], []),
   (.getfield 12, (69, 3, 38), [2, 9, 4, 377], [4]),
   (.iload_n 1, (72, 1, 39), [], []),
   (.aload_n 0, (73, 1, 40), [], []),
   (.getfield 53, (74, 3, 41), [2, 9, 7, 380], [7]),
   (.iload 4, (77, 2, 42), [], []),
   (.iconst 1, (79, 1, 43), [], []),
   (.isub, (80, 1, 44), [0], []),
   (.iaload, (81, 1, 45), [], []),
   (.invokevirtual 190, (82, 3, 46), [32, 2, 0, 3, 0, 750, 659, 660, 661, 70], []),
   (.iastore, (85, 1, 47), [], []),
   (.iconst 0, (86, 1, 48), [], [])],
  [(.istore 5, (87, 2, 49), [], []),
   (.iload 5, (89, 2, 50), [], []),
   (.iload 4, (91, 2, 51), [], []),
   (.if_icmp .ge 41, (93, 3, 52), [71], []),
   (.aload_n 0, (96, 1, 53), [], []),
   (.getfield 53, (97, 3, 54), [2, 9, 7, 380], [7]),
   (.iload 5, (100, 2, 55), [], []),
   (.iaload, (102, 1, 56), [], []),
   (.aload_n 0, (103, 1, 57), [], []),
   (.getfield 53, (104, 3, 58), [2, 9, 7, 380], [7]),
   (.iload 4, (107, 2, 59), [], []),
   (.iaload, (109, 1, 60), [], []),
   (.if_icmp .ne 18, (110, 3, 61), [69], []),
   (.iload_n 3, (113, 1, 62), [], []),
   (.ifCond .ne 8, (114, 3, 63), [65], []),
   (.iload 4, (117, 2, 64), [], [])],
  [(.goto 8, (119, 3, 65), [68], []),
   (.iload 4, (122, 2, 66), [], []),
   (.iload 5, (124, 2, 67), [], []),
   (.isub, (126, 1, 68), [0], []),
   (.ireturn, (127, 1, 69), [0], []),
   (.iinc 5 1, (128, 3, 70), [], []),
   (.goto (-42), (131, 3, 71), [49], []),
   (.iinc 4 1, (134, 3, 72), [], []),
   (.goto (-85), (137, 3, 73), [28], []),
   (.iconst (-1), (140, 1, 74), [], []),
   (.ireturn, (141, 1, 75), [0], [])]]
def rw_X_stands : List (List xq_Row) := [
  [(.aload_n 0, (0, 1, 1), [], []),
   (.iload_n 1, (1, 1, 2), [], []),
   (.iload_n 2, (2, 1, 3), [], []),
   (.invokevirtual 187, (3, 3, 4), [120, 2, 0, 9, 0, 746, 748, 17, 749, 69], []),
   (.istore_n 3, (6, 1, 5), [], []),
   (.iload_n 3, (7, 1, 6), [], []),
   (.ifCond .eq 5, (8, 3, 7), [9], []),
   (.iload_n 3, (11, 1, 8), [], []),
   (.ireturn, (12, 1, 9), [0], []),
   (.aload_n 0, (13, 1, 10), [], []),
   (.getfield 12, (14, 3, 11), [2, 9, 4, 377], [4]),
   (.invokevirtual 139, (17, 3, 12), [30, 0, 0, 3, 0, 644, 645, 646, 647, 70], []),
   (.iconst 1, (20, 1, 13), [], []),
   (.istore 4, (21, 2, 14), [], []),
   (.iload 4, (23, 2, 15), [], []),
   (.bipush 30, (25, 2, 16), [], [])],
  [(.if_icmp .gt 25, (27, 3, 17), [28], []),
   (.aload_n 0, (30, 1, 18), [], []),
   (.getfield 12, (31, 3, 19), [2, 9, 4, 377], [4]),
   (.iload_n 1, (34, 1, 20), [], []),
   (.iload_n 2, (35, 1, 21), [], []),
   (.invokevirtual 142, (36, 3, 22), [31, 2, 0, 3, 0, 654, 655, 656, 657, 70], []),
   (.iload_n 2, (39, 1, 23), [], []),
   (.if_icmp .ne 6, (40, 3, 24), [26], []),
   (.iload 4, (43, 2, 25), [], []),
   (.ireturn, (45, 1, 26), [0], []),
   (.iinc 4 1, (46, 3, 27), [], []),
   (.goto (-26), (49, 3, 28), [14], []),
   (.bipush (-5), (52, 2, 29), [], []),
   (.ireturn, (54, 1, 30), [0], [])]]
def rw_X_guess : List (List xq_Row) := [
  [(.iload_n 1, (0, 1, 1), [], []),
   (.invokestatic 81, (1, 3, 2), [130, 1, 0, 0, 1, 588, 589, 0, 590, 69], []),
   (.ifCond .ne 6, (4, 3, 3), [5], []),
   (.bipush (-2), (7, 2, 4), [], []),
   (.ireturn, (9, 1, 5), [0], []),
   (.iload_n 2, (10, 1, 6), [], []),
   (.ifCond .lt 8, (11, 3, 7), [10], []),
   (.iload_n 2, (14, 1, 8), [], []),
   (.iconst 3, (15, 1, 9), [], []),
   (.if_icmp .lt 5, (16, 3, 10), [12], []),
   (.iconst (-1), (19, 1, 11), [], []),
   (.ireturn, (20, 1, 12), [0], []),
   (.iconst 0, (21, 1, 13), [], []),
   (.istore_n 3, (22, 1, 14), [], []),
   (.iload_n 3, (23, 1, 15), [], []),
   (.aload_n 0, (24, 1, 16), [], [])],
  [(.getfield 22, (25, 3, 17), [2, 9, 0, 373], [0]),
   (.getfield 85, (28, 3, 18), [2, 6, 0, 261], [0]),
   (.getfield 99, (31, 3, 19), [0, 8, 5, 128], [5]),
   (.if_icmp .ge 42, (34, 3, 20), [39], []),
   (.aload_n 0, (37, 1, 21), [], []),
   (.getfield 22, (38, 3, 22), [2, 9, 0, 373], [0]),
   (.getfield 85, (41, 3, 23), [2, 6, 0, 261], [0]),
   (.iload_n 3, (44, 1, 24), [], []),
   (.iload_n 1, (45, 1, 25), [], []),
   (.invokevirtual 212, (46, 3, 26), [76, 2, 0, 8, 0, 800, 801, 802, 803, 72], []),
   (.ifCond .eq 21, (49, 3, 27), [37], []),
   (.aload_n 0, (52, 1, 28), [], []),
   (.getfield 22, (53, 3, 29), [2, 9, 0, 373], [0]),
   (.getfield 85, (56, 3, 30), [2, 6, 0, 261], [0]),
   (.iload_n 3, (59, 1, 31), [], []),
   (.iload_n 1, (60, 1, 32), [], [])],
  [(.invokevirtual 215, (61, 3, 33), [77, 2, 0, 8, 0, 807, 808, 809, 810, 72], []),
   (.iload_n 2, (64, 1, 34), [], []),
   (.if_icmp .ne 5, (65, 3, 35), [37], []),
   (.iload_n 3, (68, 1, 36), [], []),
   (.ireturn, (69, 1, 37), [0], []),
   (.iinc 3 1, (70, 3, 38), [], []),
   (.goto (-50), (73, 3, 39), [14], []),
   (.bipush (-5), (76, 2, 40), [], []),
   (.ireturn, (78, 1, 41), [0], [])]]
def rw_X_letter : List (List xq_Row) := [
  [(.aload_n 0, (0, 1, 1), [], []),
   (.getfield 22, (1, 3, 2), [2, 9, 0, 373], [0]),
   (.getfield 85, (4, 3, 3), [2, 6, 0, 261], [0]),
   (.iload_n 1, (7, 1, 4), [], []),
   (.invokevirtual 102, (8, 3, 5), [73, 1, 0, 8, 0, 608, 609, 610, 611, 72], []),
   (.ifCond .ne 5, (11, 3, 6), [8], []),
   (.iconst (-1), (14, 1, 7), [], []),
   (.ireturn, (15, 1, 8), [0], []),
   (.aload_n 0, (16, 1, 9), [], []),
   (.getfield 22, (17, 3, 10), [2, 9, 0, 373], [0]),
   (.getfield 85, (20, 3, 11), [2, 6, 0, 261], [0]),
   (.getfield 218, (23, 3, 12), [2, 8, 3, 124], [3]),
   (.iload_n 1, (26, 1, 13), [], []),
   (.iaload, (27, 1, 14), [], []),
   (.istore_n 2, (28, 1, 15), [], []),
   (.iconst 1, (29, 1, 16), [], [])],
  [(.istore_n 3, (30, 1, 17), [], []),
   (.iload_n 3, (31, 1, 18), [], []),
   (.iload_n 2, (32, 1, 19), [], []),
   (.if_icmp .gt 44, (33, 3, 20), [41], []),
   (.aload_n 0, (36, 1, 21), [], []),
   (.getfield 22, (37, 3, 22), [2, 9, 0, 373], [0]),
   (.getfield 85, (40, 3, 23), [2, 6, 0, 261], [0]),
   (.iload_n 1, (43, 1, 24), [], []),
   (.aload_n 0, (44, 1, 25), [], []),
   (.getfield 22, (45, 3, 26), [2, 9, 0, 373], [0]),
   (.getfield 85, (48, 3, 27), [2, 6, 0, 261], [0]),
   (.getfield 105, (51, 3, 28), [2, 8, 0, 115], [0]),
   (.iload_n 1, (54, 1, 29), [], []),
   (.iaload, (55, 1, 30), [], []),
   (.iload_n 2, (56, 1, 31), [], []),
   (.iload_n 3, (57, 1, 32), [], [])],
  [(.isub, (58, 1, 33), [0], []),
   (.invokestatic 221, (59, 3, 34), [132, 2, 0, 0, 1, 816, 805, 0, 806, 69], []),
   (.invokevirtual 215, (62, 3, 35), [77, 2, 0, 8, 0, 807, 808, 809, 810, 72], []),
   (.iconst 3, (65, 1, 36), [], []),
   (.if_icmp .ge 5, (66, 3, 37), [39], []),
   (.iload_n 3, (69, 1, 38), [], []),
   (.ireturn, (70, 1, 39), [0], []),
   (.iinc 3 1, (71, 3, 40), [], []),
   (.goto (-43), (74, 3, 41), [17], []),
   (.bipush (-5), (77, 2, 42), [], []),
   (.ireturn, (79, 1, 43), [0], [])]]
def rw_X_enough : List (List xq_Row) := [
  [(.aload_n 0, (0, 1, 1), [], []),
   (.getfield 22, (1, 3, 2), [2, 9, 0, 373], [0]),
   (.getfield 114, (4, 3, 3), [2, 6, 1, 264], [1]),
   (.iload_n 1, (7, 1, 4), [], []),
   (.invokevirtual 122, (8, 3, 5), [26, 1, 0, 2, 0, 632, 633, 634, 635, 73], []),
   (.ifCond .eq 17, (11, 3, 6), [12], []),
   (.aload_n 0, (14, 1, 7), [], []),
   (.getfield 22, (15, 3, 8), [2, 9, 0, 373], [0]),
   (.getfield 85, (18, 3, 9), [2, 6, 0, 261], [0]),
   (.iload_n 2, (21, 1, 10), [], []),
   (.invokevirtual 102, (22, 3, 11), [73, 1, 0, 8, 0, 608, 609, 610, 611, 72], []),
   (.ifCond .ne 5, (25, 3, 12), [14], []),
   (.iconst (-1), (28, 1, 13), [], []),
   (.ireturn, (29, 1, 14), [0], []),
   (.aload_n 0, (30, 1, 15), [], []),
   (.getfield 12, (31, 3, 16), [2, 9, 4, 377], [4])],
  [(.invokevirtual 139, (34, 3, 17), [30, 0, 0, 3, 0, 644, 645, 646, 647, 70], []),
   (.iconst 0, (37, 1, 18), [], []),
   (.istore_n 3, (38, 1, 19), [], []),
   (.iload_n 3, (39, 1, 20), [], []),
   (.bipush 99, (40, 2, 21), [], []),
   (.if_icmp .gt 30, (42, 3, 22), [37], []),
   (.aload_n 0, (45, 1, 23), [], []),
   (.getfield 12, (46, 3, 24), [2, 9, 4, 377], [4]),
   (.getfield 146, (49, 3, 25), [2, 3, 1, 299], [1]),
   (.iload_n 2, (52, 1, 26), [], []),
   (.iload_n 3, (53, 1, 27), [], []),
   (.iastore, (54, 1, 28), [], []),
   (.aload_n 0, (55, 1, 29), [], []),
   (.iload_n 1, (56, 1, 30), [], []),
   (.iload_n 2, (57, 1, 31), [], []),
   (.invokevirtual 200, (58, 3, 32), [121, 2, 0, 9, 0, 768, 770, 18, 771, 69], [])],
  [(.ifCond .eq 5, (61, 3, 33), [35], []),
   (.iload_n 3, (64, 1, 34), [], []),
   (.ireturn, (65, 1, 35), [0], []),
   (.iinc 3 1, (66, 3, 36), [], []),
   (.goto (-30), (69, 3, 37), [19], []),
   (.bipush (-5), (72, 2, 38), [], []),
   (.ireturn, (74, 1, 39), [0], [])]]
def rw_X_slips : List (List xq_Row) := [
  [(.aload_n 0, (0, 1, 1), [], []),
   (.getfield 22, (1, 3, 2), [2, 9, 0, 373], [0]),
   (.getfield 114, (4, 3, 3), [2, 6, 1, 264], [1]),
   (.iload_n 1, (7, 1, 4), [], []),
   (.invokevirtual 122, (8, 3, 5), [26, 1, 0, 2, 0, 632, 633, 634, 635, 73], []),
   (.ifCond .eq 19, (11, 3, 6), [14], []),
   (.iload_n 3, (14, 1, 7), [], []),
   (.ifCond .lt 15, (15, 3, 8), [14], []),
   (.iload_n 3, (18, 1, 9), [], []),
   (.iconst 1, (19, 1, 10), [], []),
   (.if_icmp .gt 10, (20, 3, 11), [14], []),
   (.iload_n 2, (23, 1, 12), [], []),
   (.invokestatic 81, (24, 3, 13), [130, 1, 0, 0, 1, 588, 589, 0, 590, 69], []),
   (.ifCond .ne 7, (27, 3, 14), [16], []),
   (.ldc2_w 224, (30, 3, 15), [825], [-9223372036854775808]),
   (.lreturn, (33, 1, 16), [], [])],
  [(.aload_n 0, (34, 1, 17), [], []),
   (.getfield 12, (35, 3, 18), [2, 9, 4, 377], [4]),
   (.invokevirtual 139, (38, 3, 19), [30, 0, 0, 3, 0, 644, 645, 646, 647, 70], []),
   (.aload_n 0, (41, 1, 20), [], []),
   (.getfield 12, (42, 3, 21), [2, 9, 4, 377], [4]),
   (.iload_n 1, (45, 1, 22), [], []),
   (.iload_n 2, (46, 1, 23), [], []),
   (.iload_n 2, (47, 1, 24), [], []),
   (.invokevirtual 226, (48, 3, 25), [36, 3, 0, 3, 0, 826, 827, 828, 829, 70], []),
   (.iload_n 2, (51, 1, 26), [], []),
   (.invokestatic 229, (52, 3, 27), [134, 1, 0, 0, 1, 830, 831, 0, 832, 69], []),
   (.iload_n 3, (55, 1, 28), [], []),
   (.invokestatic 232, (56, 3, 29), [135, 3, 0, 0, 1, 834, 835, 0, 836, 69], []),
   (.lreturn, (59, 1, 30), [], [])]]
def rw_X_wrong : List (List xq_Row) := [
  [(.aload_n 0, (0, 1, 1), [], []),
   (.getfield 22, (1, 3, 2), [2, 9, 0, 373], [0]),
   (.getfield 114, (4, 3, 3), [2, 6, 1, 264], [1]),
   (.iload_n 1, (7, 1, 4), [], []),
   (.invokevirtual 122, (8, 3, 5), [26, 1, 0, 2, 0, 632, 633, 634, 635, 73], []),
   (.ifCond .eq 25, (11, 3, 6), [16], []),
   (.iload_n 2, (14, 1, 7), [], []),
   (.ifCond .lt 21, (15, 3, 8), [16], []),
   (.iload_n 2, (18, 1, 9), [], []),
   (.iconst 1, (19, 1, 10), [], []),
   (.if_icmp .gt 16, (20, 3, 11), [16], []),
   (.aload_n 0, (23, 1, 12), [], []),
   (.getfield 22, (24, 3, 13), [2, 9, 0, 373], [0]),
   (.getfield 85, (27, 3, 14), [2, 6, 0, 261], [0]),
   (.getfield 99, (30, 3, 15), [0, 8, 5, 128], [5]),
   (.ifCond .ne 7, (33, 3, 16), [18], [])],
  [(.ldc2_w 224, (36, 3, 17), [825], [-9223372036854775808]),
   (.lreturn, (39, 1, 18), [], []),
   (.aload_n 0, (40, 1, 19), [], []),
   (.getfield 22, (41, 3, 20), [2, 9, 0, 373], [0]),
   (.getfield 85, (44, 3, 21), [2, 6, 0, 261], [0]),
   (.getfield 99, (47, 3, 22), [0, 8, 5, 128], [5]),
   (.aload_n 0, (50, 1, 23), [], []),
   (.iload_n 1, (51, 1, 24), [], []),
   (.invokevirtual 236, (52, 3, 25), [95, 1, 0, 9, 0, 841, 765, 766, 767, 69], []),
   (.invokestatic 239, (55, 3, 26), [3, 1, 0, 0, 1, 842, 843, 0, 844, 86], []),
   (.isub, (58, 1, 27), [0], []),
   (.aload_n 0, (59, 1, 28), [], []),
   (.getfield 22, (60, 3, 29), [2, 9, 0, 373], [0]),
   (.getfield 85, (63, 3, 30), [2, 6, 0, 261], [0]),
   (.getfield 99, (66, 3, 31), [0, 8, 5, 128], [5]),
   (.iload_n 2, (69, 1, 32), [], [])],
  [(.invokestatic 232, (70, 3, 33), [135, 3, 0, 0, 1, 834, 835, 0, 836, 69], []),
   (.lreturn, (73, 1, 34), [], [])]]
def rw_X_chain : List (List xq_Row) := [
  [(.aload_n 0, (0, 1, 1), [], []),
   (.getfield 22, (1, 3, 2), [2, 9, 0, 373], [0]),
   (.getfield 114, (4, 3, 3), [2, 6, 1, 264], [1]),
   (.iload_n 1, (7, 1, 4), [], []),
   (.invokevirtual 122, (8, 3, 5), [26, 1, 0, 2, 0, 632, 633, 634, 635, 73], []),
   (.ifCond .eq 29, (11, 3, 6), [19], []),
   (.iload_n 3, (14, 1, 7), [], []),
   (.ifCond .eq 27, (15, 3, 8), [21], []),
   (.iload_n 3, (18, 1, 9), [], []),
   (.iconst 1, (19, 1, 10), [], []),
   (.if_icmp .eq 22, (20, 3, 11), [21], []),
   (.aload_n 0, (23, 1, 12), [], []),
   (.getfield 22, (24, 3, 13), [2, 9, 0, 373], [0]),
   (.getfield 85, (27, 3, 14), [2, 6, 0, 261], [0]),
   (.iload_n 3, (30, 1, 15), [], []),
   (.bipush 10, (31, 2, 16), [], [])],
  [(.isub, (33, 1, 17), [1], []),
   (.invokevirtual 102, (34, 3, 18), [73, 1, 0, 8, 0, 608, 609, 610, 611, 72], []),
   (.ifCond .ne 5, (37, 3, 19), [21], []),
   (.iconst (-1), (40, 1, 20), [], []),
   (.ireturn, (41, 1, 21), [0], []),
   (.iload_n 2, (42, 1, 22), [], []),
   (.iconst 1, (43, 1, 23), [], []),
   (.if_icmp .lt 9, (44, 3, 24), [27], []),
   (.iload_n 2, (47, 1, 25), [], []),
   (.bipush 10, (48, 2, 26), [], []),
   (.if_icmp .le 6, (50, 3, 27), [29], []),
   (.bipush (-2), (53, 2, 28), [], []),
   (.ireturn, (55, 1, 29), [0], []),
   (.aload_n 0, (56, 1, 30), [], []),
   (.iload_n 1, (57, 1, 31), [], []),
   (.iload_n 2, (58, 1, 32), [], [])],
  [(.invokevirtual 244, (59, 3, 33), [124, 2, 0, 9, 0, 852, 854, 21, 855, 69], []),
   (.istore 4, (62, 2, 34), [], []),
   (.iload_n 3, (64, 1, 35), [], []),
   (.lookupswitch 48 #[(0, 27), (1, 45)], (65, 27, 36), [46, 36, 44], [0, 1]),
   (.aload_n 0, (92, 1, 37), [], []),
   (.getfield 53, (93, 3, 38), [2, 9, 7, 380], [7]),
   (.aload_n 0, (96, 1, 39), [], []),
   (.getfield 22, (97, 3, 40), [2, 9, 0, 373], [0]),
   (.getfield 85, (100, 3, 41), [2, 6, 0, 261], [0]),
   (.getfield 99, (103, 3, 42), [0, 8, 5, 128], [5]),
   (.invokestatic 247, (106, 3, 43), [128, 2, 0, 0, 1, 856, 857, 0, 858, 69], []),
   (.ireturn, (109, 1, 44), [0], []),
   (.iload 4, (110, 2, 45), [], []),
   (.ireturn, (112, 1, 46), [0], []),
   (.aload_n 0, (113, 1, 47), [], []),
   (.getfield 53, (114, 3, 48), [2, 9, 7, 380], [7])],
  [(.iload_n 3, (117, 1, 49), [], []),
   (.bipush 10, (118, 2, 50), [], []),
   (.isub, (120, 1, 51), [1], []),
   (.iaload, (121, 1, 52), [], []),
   (.ireturn, (122, 1, 53), [0], [])]]
def rw_X_meant : List (List xq_Row) := [
  [(.aload_n 0, (0, 1, 1), [], []),
   (.iload_n 1, (1, 1, 2), [], []),
   (.iload_n 2, (2, 1, 3), [], []),
   (.invokevirtual 187, (3, 3, 4), [120, 2, 0, 9, 0, 746, 748, 17, 749, 69], []),
   (.istore_n 3, (6, 1, 5), [], []),
   (.iload_n 3, (7, 1, 6), [], []),
   (.ifCond .eq 5, (8, 3, 7), [9], []),
   (.iload_n 3, (11, 1, 8), [], []),
   (.ireturn, (12, 1, 9), [0], []),
   (.aload_n 0, (13, 1, 10), [], []),
   (.getfield 12, (14, 3, 11), [2, 9, 4, 377], [4]),
   (.invokevirtual 139, (17, 3, 12), [30, 0, 0, 3, 0, 644, 645, 646, 647, 70], []),
   (.iconst 0, (20, 1, 13), [], []),
   (.istore 4, (21, 2, 14), [], []),
   (.iconst 0, (23, 1, 15), [], []),
   (.istore 5, (24, 2, 16), [], [])],
  [(.iload 5, (26, 2, 17), [], []),
   (.aload_n 0, (28, 1, 18), [], []),
   (.getfield 22, (29, 3, 19), [2, 9, 0, 373], [0]),
   (.getfield 85, (32, 3, 20), [2, 6, 0, 261], [0]),
   (.getfield 99, (35, 3, 21), [0, 8, 5, 128], [5]),
   (.if_icmp .ge 29, (38, 3, 22), [36], []),
   (.aload_n 0, (41, 1, 23), [], []),
   (.iload_n 1, (42, 1, 24), [], []),
   (.iload 5, (43, 2, 25), [], []),
   (.iload_n 2, (45, 1, 26), [], []),
   (.invokevirtual 250, (46, 3, 27), [125, 3, 0, 9, 0, 863, 865, 22, 866, 69], []),
   (.ifCond .le 12, (49, 3, 28), [34], []),
   (.iload 4, (52, 2, 29), [], []),
   (.iconst 1, (54, 1, 30), [], []),
   (.iload 5, (55, 2, 31), [], []),
   (.ishl, (57, 1, 32), [], [])],
  [(.ior, (58, 1, 33), [], []),
   (.istore 4, (59, 2, 34), [], []),
   (.iinc 5 1, (61, 3, 35), [], []),
   (.goto (-38), (64, 3, 36), [16], []),
   (.iload 4, (67, 2, 37), [], []),
   (.ireturn, (69, 1, 38), [0], [])]]
def rw_X_likeliest : List (List xq_Row) := [
  [(.aload_n 0, (0, 1, 1), [], []),
   (.iload_n 1, (1, 1, 2), [], []),
   (.iload_n 2, (2, 1, 3), [], []),
   (.invokevirtual 187, (3, 3, 4), [120, 2, 0, 9, 0, 746, 748, 17, 749, 69], []),
   (.istore_n 3, (6, 1, 5), [], []),
   (.iload_n 3, (7, 1, 6), [], []),
   (.ifCond .eq 5, (8, 3, 7), [9], []),
   (.iload_n 3, (11, 1, 8), [], []),
   (.ireturn, (12, 1, 9), [0], []),
   (.aload_n 0, (13, 1, 10), [], []),
   (.getfield 12, (14, 3, 11), [2, 9, 4, 377], [4]),
   (.invokevirtual 139, (17, 3, 12), [30, 0, 0, 3, 0, 644, 645, 646, 647, 70], []),
   (.bipush (-5), (20, 2, 13), [], []),
   (.istore 4, (22, 2, 14), [], []),
   (.iconst 0, (24, 1, 15), [], []),
   (.istore 5, (25, 2, 16), [], [])],
  [(.iconst 0, (27, 1, 17), [], []),
   (.istore 6, (28, 2, 18), [], []),
   (.iload 6, (30, 2, 19), [], []),
   (.aload_n 0, (32, 1, 20), [], []),
   (.getfield 22, (33, 3, 21), [2, 9, 0, 373], [0]),
   (.getfield 85, (36, 3, 22), [2, 6, 0, 261], [0]),
   (.getfield 99, (39, 3, 23), [0, 8, 5, 128], [5]),
   (.if_icmp .ge 50, (42, 3, 24), [48], []),
   (.aload_n 0, (45, 1, 25), [], []),
   (.getfield 22, (46, 3, 26), [2, 9, 0, 373], [0]),
   (.getfield 85, (49, 3, 27), [2, 6, 0, 261], [0]),
   (.getfield 108, (52, 3, 28), [2, 8, 1, 118], [1]),
   (.iload 6, (55, 2, 29), [], []),
   (.iaload, (57, 1, 30), [], []),
   (.iconst 1, (58, 1, 31), [], []),
   (.iadd, (59, 1, 32), [0], [])],
  [(.aload_n 0, (60, 1, 33), [], []),
   (.iload_n 1, (61, 1, 34), [], []),
   (.iload 6, (62, 2, 35), [], []),
   (.iload_n 2, (64, 1, 36), [], []),
   (.invokevirtual 250, (65, 3, 37), [125, 3, 0, 9, 0, 863, 865, 22, 866, 69], []),
   (.imul, (68, 1, 38), [0], []),
   (.istore 7, (69, 2, 39), [], []),
   (.iload 7, (71, 2, 40), [], []),
   (.iload 5, (73, 2, 41), [], []),
   (.if_icmp .le 11, (75, 3, 42), [46], []),
   (.iload 7, (78, 2, 43), [], []),
   (.istore 5, (80, 2, 44), [], []),
   (.iload 6, (82, 2, 45), [], []),
   (.istore 4, (84, 2, 46), [], []),
   (.iinc 6 1, (86, 3, 47), [], []),
   (.goto (-59), (89, 3, 48), [18], [])],
  [(.iload 4, (92, 2, 49), [], []),
   (.ireturn, (94, 1, 50), [0], [])]]
def rw_X_who : List (List xq_Row) := [
  [(.iload_n 1, (0, 1, 1), [], []),
   (.invokestatic 81, (1, 3, 2), [130, 1, 0, 0, 1, 588, 589, 0, 590, 69], []),
   (.ifCond .eq 10, (4, 3, 3), [6], []),
   (.iload_n 2, (7, 1, 4), [], []),
   (.invokestatic 81, (8, 3, 5), [130, 1, 0, 0, 1, 588, 589, 0, 590, 69], []),
   (.ifCond .ne 6, (11, 3, 6), [8], []),
   (.bipush (-2), (14, 2, 7), [], []),
   (.ireturn, (16, 1, 8), [0], []),
   (.aload_n 0, (17, 1, 9), [], []),
   (.getfield 12, (18, 3, 10), [2, 9, 4, 377], [4]),
   (.invokevirtual 139, (21, 3, 11), [30, 0, 0, 3, 0, 644, 645, 646, 647, 70], []),
   (.iconst 0, (24, 1, 12), [], []),
   (.istore_n 3, (25, 1, 13), [], []),
   (.iconst 0, (26, 1, 14), [], []),
   (.istore 4, (27, 2, 15), [], []),
   (.iload 4, (29, 2, 16), [], [])],
  [(.aload_n 0, (31, 1, 17), [], []),
   (.getfield 22, (32, 3, 18), [2, 9, 0, 373], [0]),
   (.getfield 114, (35, 3, 19), [2, 6, 1, 264], [1]),
   (.getfield 121, (38, 3, 20), [0, 2, 3, 160], [3]),
   (.if_icmp .ge 30, (41, 3, 21), [36], []),
   (.aload_n 0, (44, 1, 22), [], []),
   (.getfield 12, (45, 3, 23), [2, 9, 4, 377], [4]),
   (.iload 4, (48, 2, 24), [], []),
   (.iload_n 1, (50, 1, 25), [], []),
   (.invokevirtual 190, (51, 3, 26), [32, 2, 0, 3, 0, 750, 659, 660, 661, 70], []),
   (.iload_n 2, (54, 1, 27), [], []),
   (.if_icmp .ne 10, (55, 3, 28), [34], []),
   (.iload_n 3, (58, 1, 29), [], []),
   (.iconst 1, (59, 1, 30), [], []),
   (.iload 4, (60, 2, 31), [], []),
   (.ishl, (62, 1, 32), [], [])],
  [(.ior, (63, 1, 33), [], []),
   (.istore_n 3, (64, 1, 34), [], []),
   (.iinc 4 1, (65, 3, 35), [], []),
   (.goto (-39), (68, 3, 36), [15], []),
   (.iload_n 3, (71, 1, 37), [], []),
   (.ireturn, (72, 1, 38), [0], [])]]
def rw_X_twins : List (List xq_Row) := [
  [(.bipush (-5), (0, 2, 1), [], []),
   (.istore_n 1, (2, 1, 2), [], []),
   (.iconst 0, (3, 1, 3), [], []),
   (.istore_n 2, (4, 1, 4), [], []),
   (.iconst 0, (5, 1, 5), [], []),
   (.istore_n 3, (6, 1, 6), [], []),
   (.iload_n 3, (7, 1, 7), [], []),
   (.aload_n 0, (8, 1, 8), [], []),
   (.getfield 22, (9, 3, 9), [2, 9, 0, 373], [0]),
   (.getfield 85, (12, 3, 10), [2, 6, 0, 261], [0]),
   (.getfield 99, (15, 3, 11), [0, 8, 5, 128], [5]),
   (.if_icmp .ge 81, (18, 3, 12), [51], []),
   (.iload_n 3, (21, 1, 13), [], []),
   (.iconst 1, (22, 1, 14), [], []),
   (.iadd, (23, 1, 15), [0], []),
   (.istore 4, (24, 2, 16), [], [])],
  [(.iload 4, (26, 2, 17), [], []),
   (.aload_n 0, (28, 1, 18), [], []),
   (.getfield 22, (29, 3, 19), [2, 9, 0, 373], [0]),
   (.getfield 85, (32, 3, 20), [2, 6, 0, 261], [0]),
   (.getfield 99, (35, 3, 21), [0, 8, 5, 128], [5]),
   (.if_icmp .ge 55, (38, 3, 22), [49], []),
   (.aload_n 0, (41, 1, 23), [], []),
   (.getfield 12, (42, 3, 24), [2, 9, 4, 377], [4]),
   (.aload_n 0, (45, 1, 25), [], []),
   (.getfield 22, (46, 3, 26), [2, 9, 0, 373], [0]),
   (.getfield 85, (49, 3, 27), [2, 6, 0, 261], [0]),
   (.getfield 105, (52, 3, 28), [2, 8, 0, 115], [0]),
   (.iload_n 3, (55, 1, 29), [], []),
   (.iaload, (56, 1, 30), [], []),
   (.iload 4, (57, 2, 31), [], []),
   (.invokevirtual 253, (59, 3, 32), [35, 2, 0, 3, 0, 879, 880, 881, 882, 70], [])],
  [(.istore 5, (62, 2, 33), [], []),
   (.iload_n 1, (64, 1, 34), [], []),
   (.bipush (-5), (65, 2, 35), [], []),
   (.if_icmp .eq 9, (67, 3, 36), [39], []),
   (.iload 5, (70, 2, 37), [], []),
   (.iload_n 2, (72, 1, 38), [], []),
   (.if_icmp .ge 14, (73, 3, 39), [47], []),
   (.iload 5, (76, 2, 40), [], []),
   (.istore_n 2, (78, 1, 41), [], []),
   (.bipush 10, (79, 2, 42), [], []),
   (.iload_n 3, (81, 1, 43), [], []),
   (.imul, (82, 1, 44), [0], []),
   (.iload 4, (83, 2, 45), [], []),
   (.iadd, (85, 1, 46), [0], []),
   (.istore_n 1, (86, 1, 47), [], []),
   (.iinc 4 1, (87, 3, 48), [], [])],
  [(.goto (-64), (90, 3, 49), [16], []),
   (.iinc 3 1, (93, 3, 50), [], []),
   (.goto (-89), (96, 3, 51), [6], []),
   (.iload_n 1, (99, 1, 52), [], []),
   (.ireturn, (100, 1, 53), [0], [])]]
def rw_X_room : List (List xq_Row) := [
  [(.aload_n 0, (0, 1, 1), [], []),
   (.getfield 22, (1, 3, 2), [2, 9, 0, 373], [0]),
   (.getfield 114, (4, 3, 3), [2, 6, 1, 264], [1]),
   (.iload_n 1, (7, 1, 4), [], []),
   (.invokevirtual 122, (8, 3, 5), [26, 1, 0, 2, 0, 632, 633, 634, 635, 73], []),
   (.ifCond .ne 5, (11, 3, 6), [8], []),
   (.iconst (-1), (14, 1, 7), [], []),
   (.ireturn, (15, 1, 8), [0], []),
   (.aload_n 0, (16, 1, 9), [], []),
   (.getfield 12, (17, 3, 10), [2, 9, 4, 377], [4]),
   (.invokevirtual 139, (20, 3, 11), [30, 0, 0, 3, 0, 644, 645, 646, 647, 70], []),
   (.aload_n 0, (23, 1, 12), [], []),
   (.iload_n 1, (24, 1, 13), [], []),
   (.invokevirtual 209, (25, 3, 14), [123, 1, 0, 9, 0, 784, 786, 20, 787, 69], []),
   (.ireturn, (28, 1, 15), [0], [])]]
def rw_X_saved : List (List xq_Row) := [
  [(.aload_n 0, (0, 1, 1), [], []),
   (.getfield 22, (1, 3, 2), [2, 9, 0, 373], [0]),
   (.getfield 114, (4, 3, 3), [2, 6, 1, 264], [1]),
   (.iload_n 1, (7, 1, 4), [], []),
   (.invokevirtual 122, (8, 3, 5), [26, 1, 0, 2, 0, 632, 633, 634, 635, 73], []),
   (.ifCond .ne 5, (11, 3, 6), [8], []),
   (.iconst (-1), (14, 1, 7), [], []),
   (.ireturn, (15, 1, 8), [0], []),
   (.aload_n 0, (16, 1, 9), [], []),
   (.getfield 12, (17, 3, 10), [2, 9, 4, 377], [4]),
   (.invokevirtual 139, (20, 3, 11), [30, 0, 0, 3, 0, 644, 645, 646, 647, 70], []),
   (.aload_n 0, (23, 1, 12), [], []),
   (.iload_n 1, (24, 1, 13), [], []),
   (.invokevirtual 209, (25, 3, 14), [123, 1, 0, 9, 0, 784, 786, 20, 787, 69], []),
   (.pop, (28, 1, 15), [], []),
   (.iconst 0, (29, 1, 16), [], [])],
  [(.istore_n 2, (30, 1, 17), [], []),
   (.iconst 0, (31, 1, 18), [], []),
   (.istore_n 3, (32, 1, 19), [], []),
   (.iload_n 3, (33, 1, 20), [], []),
   (.aload_n 0, (34, 1, 21), [], []),
   (.getfield 22, (35, 3, 22), [2, 9, 0, 373], [0]),
   (.getfield 85, (38, 3, 23), [2, 6, 0, 261], [0]),
   (.getfield 99, (41, 3, 24), [0, 8, 5, 128], [5]),
   (.if_icmp .ge 47, (44, 3, 25), [49], []),
   (.aload_n 0, (47, 1, 26), [], []),
   (.getfield 49, (48, 3, 27), [2, 9, 6, 379], [6]),
   (.iload_n 3, (51, 1, 28), [], []),
   (.iaload, (52, 1, 29), [], []),
   (.ifCond .eq 32, (53, 3, 30), [47], []),
   (.iload_n 2, (56, 1, 31), [], []),
   (.iconst 0, (57, 1, 32), [], [])],
  [(.aload_n 0, (58, 1, 33), [], []),
   (.getfield 22, (59, 3, 34), [2, 9, 0, 373], [0]),
   (.getfield 85, (62, 3, 35), [2, 6, 0, 261], [0]),
   (.getfield 218, (65, 3, 36), [2, 8, 3, 124], [3]),
   (.iload_n 3, (68, 1, 37), [], []),
   (.iaload, (69, 1, 38), [], []),
   (.aload_n 0, (70, 1, 39), [], []),
   (.getfield 49, (71, 3, 40), [2, 9, 6, 379], [6]),
   (.iload_n 3, (74, 1, 41), [], []),
   (.iaload, (75, 1, 42), [], []),
   (.invokestatic 206, (76, 3, 43), [131, 1, 0, 0, 1, 591, 592, 0, 593, 69], []),
   (.isub, (79, 1, 44), [0], []),
   (.invokestatic 256, (80, 3, 45), [1, 2, 0, 0, 1, 891, 525, 0, 526, 80], []),
   (.iadd, (83, 1, 46), [0], []),
   (.istore_n 2, (84, 1, 47), [], []),
   (.iinc 3 1, (85, 3, 48), [], [])],
  [(.goto (-55), (88, 3, 49), [19], []),
   (.iload_n 2, (91, 1, 50), [], []),
   (.ireturn, (92, 1, 51), [0], [])]]
def rw_X_book : List (List xq_Row) := [
  [(.iload_n 1, (0, 1, 1), [], []),
   (.iconst (-1), (1, 1, 2), [], []),
   (.if_icmp .ne 16, (2, 3, 3), [10], []),
   (.aload_n 0, (5, 1, 4), [], []),
   (.getfield 22, (6, 3, 5), [2, 9, 0, 373], [0]),
   (.getfield 261, (9, 3, 6), [2, 6, 4, 272], [4]),
   (.iconst 0, (12, 1, 7), [], []),
   (.putfield 265, (13, 3, 8), [0, 1, 3, 249, 0], [3]),
   (.iconst 0, (16, 1, 9), [], []),
   (.ireturn, (17, 1, 10), [0], []),
   (.aload_n 0, (18, 1, 11), [], []),
   (.getfield 22, (19, 3, 12), [2, 9, 0, 373], [0]),
   (.getfield 114, (22, 3, 13), [2, 6, 1, 264], [1]),
   (.iload_n 1, (25, 1, 14), [], []),
   (.invokevirtual 122, (26, 3, 15), [26, 1, 0, 2, 0, 632, 633, 634, 635, 73], []),
   (.ifCond .ne 5, (29, 3, 16), [18], [])],
  [(.iconst (-1), (32, 1, 17), [], []),
   (.ireturn, (33, 1, 18), [0], []),
   (.iload_n 2, (34, 1, 19), [], []),
   (.invokestatic 81, (35, 3, 20), [130, 1, 0, 0, 1, 588, 589, 0, 590, 69], []),
   (.ifCond .eq 10, (38, 3, 21), [24], []),
   (.iload_n 3, (41, 1, 22), [], []),
   (.invokestatic 81, (42, 3, 23), [130, 1, 0, 0, 1, 588, 589, 0, 590, 69], []),
   (.ifCond .ne 6, (45, 3, 24), [26], []),
   (.bipush (-2), (48, 2, 25), [], []),
   (.ireturn, (50, 1, 26), [0], []),
   (.aload_n 0, (51, 1, 27), [], []),
   (.getfield 22, (52, 3, 28), [2, 9, 0, 373], [0]),
   (.getfield 261, (55, 3, 29), [2, 6, 4, 272], [4]),
   (.iload_n 1, (58, 1, 30), [], []),
   (.iload_n 2, (59, 1, 31), [], []),
   (.iload_n 3, (60, 1, 32), [], [])],
  [(.invokevirtual 268, (61, 3, 33), [23, 3, 0, 1, 0, 896, 897, 898, 899, 76], []),
   (.ifCond .eq 16, (64, 3, 34), [39], []),
   (.aload_n 0, (67, 1, 35), [], []),
   (.getfield 22, (68, 3, 36), [2, 9, 0, 373], [0]),
   (.getfield 261, (71, 3, 37), [2, 6, 4, 272], [4]),
   (.getfield 265, (74, 3, 38), [0, 1, 3, 249], [3]),
   (.goto 5, (77, 3, 39), [40], []),
   (.bipush (-4), (80, 2, 40), [], []),
   (.ireturn, (82, 1, 41), [0], [])]]
def rw_X_looked : List (List xq_Row) := [
  [(.aload_n 0, (0, 1, 1), [], []),
   (.getfield 22, (1, 3, 2), [2, 9, 0, 373], [0]),
   (.getfield 261, (4, 3, 3), [2, 6, 4, 272], [4]),
   (.astore_n 1, (7, 1, 4), [], []),
   (.aload_n 0, (8, 1, 5), [], []),
   (.getfield 12, (9, 3, 6), [2, 9, 4, 377], [4]),
   (.invokevirtual 139, (12, 3, 7), [30, 0, 0, 3, 0, 644, 645, 646, 647, 70], []),
   (.iconst 0, (15, 1, 8), [], []),
   (.istore_n 2, (16, 1, 9), [], []),
   (.iload_n 2, (17, 1, 10), [], []),
   (.aload_n 1, (18, 1, 11), [], []),
   (.getfield 265, (19, 3, 12), [0, 1, 3, 249], [3]),
   (.if_icmp .ge 39, (22, 3, 13), [33], []),
   (.aload_n 0, (25, 1, 14), [], []),
   (.getfield 12, (26, 3, 15), [2, 9, 4, 377], [4]),
   (.aload_n 1, (29, 1, 16), [], [])],
  [(.getfield 271, (30, 3, 17), [2, 1, 0, 243], [0]),
   (.iload_n 2, (33, 1, 18), [], []),
   (.iaload, (34, 1, 19), [], []),
   (.aload_n 1, (35, 1, 20), [], []),
   (.getfield 274, (36, 3, 21), [2, 1, 1, 245], [1]),
   (.iload_n 2, (39, 1, 22), [], []),
   (.iaload, (40, 1, 23), [], []),
   (.invokevirtual 190, (41, 3, 24), [32, 2, 0, 3, 0, 750, 659, 660, 661, 70], []),
   (.aload_n 1, (44, 1, 25), [], []),
   (.getfield 276, (45, 3, 26), [2, 1, 2, 247], [2]),
   (.iload_n 2, (48, 1, 27), [], []),
   (.iaload, (49, 1, 28), [], []),
   (.if_icmp .eq 5, (50, 3, 29), [31], []),
   (.iload_n 2, (53, 1, 30), [], []),
   (.ireturn, (54, 1, 31), [0], []),
   (.iinc 2 1, (55, 3, 32), [], [])],
  [(.goto (-41), (58, 3, 33), [9], []),
   (.bipush (-5), (61, 2, 34), [], []),
   (.ireturn, (63, 1, 35), [0], [])]]
def rw_X_act : List (List xq_Row) := [
  [(.aload_n 0, (0, 1, 1), [], []),
   (.getfield 45, (1, 3, 2), [2, 9, 5, 378], [5]),
   (.invokevirtual 279, (4, 3, 3), [17, 0, 0, 0, 0, 908, 909, 910, 911, 78], []),
   (.aload_n 0, (7, 1, 4), [], []),
   (.getfield 22, (8, 3, 5), [2, 9, 0, 373], [0]),
   (.getfield 114, (11, 3, 6), [2, 6, 1, 264], [1]),
   (.iload_n 1, (14, 1, 7), [], []),
   (.invokevirtual 122, (15, 3, 8), [26, 1, 0, 2, 0, 632, 633, 634, 635, 73], []),
   (.ifCond .eq 12, (18, 3, 9), [14], []),
   (.iload_n 2, (21, 1, 10), [], []),
   (.ifCond .lt 8, (22, 3, 11), [14], []),
   (.iload_n 2, (25, 1, 12), [], []),
   (.iconst 3, (26, 1, 13), [], []),
   (.if_icmp .lt 5, (27, 3, 14), [16], []),
   (.iconst 0, (30, 1, 15), [], []),
   (.ireturn, (31, 1, 16), [0], [])],
  [(.aload_n 0, (32, 1, 17), [], []),
   (.getfield 45, (33, 3, 18), [2, 9, 5, 378], [5]),
   (.iload_n 1, (36, 1, 19), [], []),
   (.aload_n 0, (37, 1, 20), [], []),
   (.getfield 22, (38, 3, 21), [2, 9, 0, 373], [0]),
   (.getfield 114, (41, 3, 22), [2, 6, 1, 264], [1]),
   (.getfield 123, (44, 3, 23), [2, 2, 0, 152], [0]),
   (.iload_n 1, (47, 1, 24), [], []),
   (.iaload, (48, 1, 25), [], []),
   (.aload_n 0, (49, 1, 26), [], []),
   (.getfield 22, (50, 3, 27), [2, 9, 0, 373], [0]),
   (.getfield 114, (53, 3, 28), [2, 6, 1, 264], [1]),
   (.getfield 126, (56, 3, 29), [2, 2, 1, 155], [1]),
   (.iload_n 1, (59, 1, 30), [], []),
   (.iaload, (60, 1, 31), [], []),
   (.iload_n 2, (61, 1, 32), [], [])],
  [(.iload_n 3, (62, 1, 33), [], []),
   (.invokevirtual 282, (63, 3, 34), [18, 5, 0, 0, 0, 912, 913, 914, 915, 78], []),
   (.ireturn, (66, 1, 35), [0], [])]]
def rw_X_trace : List (List xq_Row) := [
  [(.iload_n 1, (0, 1, 1), [], []),
   (.aload_n 0, (1, 1, 2), [], []),
   (.getfield 45, (2, 3, 3), [2, 9, 5, 378], [5]),
   (.getfield 286, (5, 3, 4), [0, 0, 1, 358], [1]),
   (.bipush 20, (8, 2, 5), [], []),
   (.invokestatic 289, (10, 3, 6), [0, 2, 0, 0, 1, 582, 411, 0, 412, 80], []),
   (.invokestatic 175, (13, 3, 7), [126, 2, 0, 0, 1, 739, 740, 0, 741, 69], []),
   (.ifCond .eq 15, (16, 3, 8), [14], []),
   (.aload_n 0, (19, 1, 9), [], []),
   (.getfield 45, (20, 3, 10), [2, 9, 5, 378], [5]),
   (.getfield 292, (23, 3, 11), [2, 0, 0, 356], [0]),
   (.iload_n 1, (26, 1, 12), [], []),
   (.iaload, (27, 1, 13), [], []),
   (.goto 4, (28, 3, 14), [15], []),
   (.iconst (-1), (31, 1, 15), [], []),
   (.ireturn, (32, 1, 16), [0], [])]]
def rw_X_as : List (List xq_Row) := [
  [(.aload_n 0, (0, 1, 1), [], []),
   (.getfield 22, (1, 3, 2), [2, 9, 0, 373], [0]),
   (.getfield 114, (4, 3, 3), [2, 6, 1, 264], [1]),
   (.iload_n 1, (7, 1, 4), [], []),
   (.invokevirtual 122, (8, 3, 5), [26, 1, 0, 2, 0, 632, 633, 634, 635, 73], []),
   (.ifCond .eq 13, (11, 3, 6), [11], []),
   (.iload_n 2, (14, 1, 7), [], []),
   (.ifCond .lt 9, (15, 3, 8), [11], []),
   (.iload_n 2, (18, 1, 9), [], []),
   (.bipush 7, (19, 2, 10), [], []),
   (.if_icmp .lt 5, (21, 3, 11), [13], []),
   (.iconst (-1), (24, 1, 12), [], []),
   (.ireturn, (25, 1, 13), [0], []),
   (.aload_n 0, (26, 1, 14), [], []),
   (.getfield 22, (27, 3, 15), [2, 9, 0, 373], [0]),
   (.getfield 114, (30, 3, 16), [2, 6, 1, 264], [1])],
  [(.getfield 123, (33, 3, 17), [2, 2, 0, 152], [0]),
   (.iload_n 1, (36, 1, 18), [], []),
   (.iaload, (37, 1, 19), [], []),
   (.iload_n 2, (38, 1, 20), [], []),
   (.invokestatic 295, (39, 3, 21), [129, 2, 0, 0, 1, 939, 940, 0, 941, 69], []),
   (.ifCond .eq 18, (42, 3, 22), [29], []),
   (.aload_n 0, (45, 1, 23), [], []),
   (.getfield 22, (46, 3, 24), [2, 9, 0, 373], [0]),
   (.getfield 114, (49, 3, 25), [2, 6, 1, 264], [1]),
   (.getfield 126, (52, 3, 26), [2, 2, 1, 155], [1]),
   (.iload_n 1, (55, 1, 27), [], []),
   (.iaload, (56, 1, 28), [], []),
   (.goto 5, (57, 3, 29), [30], []),
   (.bipush (-6), (60, 2, 30), [], []),
   (.ireturn, (62, 1, 31), [0], [])]]
def rw_X_image : List (List xq_Row) := [
  [(.aload_n 0, (0, 1, 1), [], []),
   (.getfield 28, (1, 3, 2), [2, 9, 1, 374], [1]),
   (.aload_n 0, (4, 1, 3), [], []),
   (.getfield 22, (5, 3, 4), [2, 9, 0, 373], [0]),
   (.invokevirtual 298, (8, 3, 5), [65, 1, 0, 6, 0, 947, 948, 949, 950, 71], []),
   (.aload_n 0, (11, 1, 6), [], []),
   (.iconst 1, (12, 1, 7), [], []),
   (.putfield 31, (13, 3, 8), [1, 9, 2, 375, 0], [2]),
   (.aload_n 0, (16, 1, 9), [], []),
   (.getfield 22, (17, 3, 10), [2, 9, 0, 373], [0]),
   (.getfield 114, (20, 3, 11), [2, 6, 1, 264], [1]),
   (.getfield 121, (23, 3, 12), [0, 2, 3, 160], [3]),
   (.ireturn, (26, 1, 13), [0], [])]]
def rw_X_undo : List (List xq_Row) := [
  [(.aload_n 0, (0, 1, 1), [], []),
   (.getfield 31, (1, 3, 2), [1, 9, 2, 375], [2]),
   (.ifCond .ne 6, (4, 3, 3), [5], []),
   (.bipush (-3), (7, 2, 4), [], []),
   (.ireturn, (9, 1, 5), [0], []),
   (.aload_n 0, (10, 1, 6), [], []),
   (.getfield 22, (11, 3, 7), [2, 9, 0, 373], [0]),
   (.aload_n 0, (14, 1, 8), [], []),
   (.getfield 28, (15, 3, 9), [2, 9, 1, 374], [1]),
   (.invokevirtual 298, (18, 3, 10), [65, 1, 0, 6, 0, 947, 948, 949, 950, 71], []),
   (.aload_n 0, (21, 1, 11), [], []),
   (.getfield 22, (22, 3, 12), [2, 9, 0, 373], [0]),
   (.getfield 114, (25, 3, 13), [2, 6, 1, 264], [1]),
   (.getfield 121, (28, 3, 14), [0, 2, 3, 160], [3]),
   (.ireturn, (31, 1, 15), [0], [])]]
def rw_X_count : List (List xq_Row) := [
  [(.iload_n 1, (0, 1, 1), [], []),
   (.tableswitch 111 0 6 #[43, 54, 65, 73, 84, 95, 103], (1, 43, 2), [34, 2, 7, 12, 16, 21, 26, 30], [0, 1, 2, 3, 4, 5, 6]),
   (.aload_n 0, (44, 1, 3), [], []),
   (.getfield 22, (45, 3, 4), [2, 9, 0, 373], [0]),
   (.getfield 114, (48, 3, 5), [2, 6, 1, 264], [1]),
   (.getfield 121, (51, 3, 6), [0, 2, 3, 160], [3]),
   (.ireturn, (54, 1, 7), [0], []),
   (.aload_n 0, (55, 1, 8), [], []),
   (.getfield 22, (56, 3, 9), [2, 9, 0, 373], [0]),
   (.getfield 85, (59, 3, 10), [2, 6, 0, 261], [0]),
   (.getfield 99, (62, 3, 11), [0, 8, 5, 128], [5]),
   (.ireturn, (65, 1, 12), [0], []),
   (.aload_n 0, (66, 1, 13), [], []),
   (.getfield 22, (67, 3, 14), [2, 9, 0, 373], [0]),
   (.getfield 63, (70, 3, 15), [0, 6, 7, 278], [7]),
   (.ireturn, (73, 1, 16), [0], [])],
  [(.aload_n 0, (74, 1, 17), [], []),
   (.getfield 22, (75, 3, 18), [2, 9, 0, 373], [0]),
   (.getfield 132, (78, 3, 19), [2, 6, 2, 267], [2]),
   (.getfield 136, (81, 3, 20), [0, 7, 3, 183], [3]),
   (.ireturn, (84, 1, 21), [0], []),
   (.aload_n 0, (85, 1, 22), [], []),
   (.getfield 22, (86, 3, 23), [2, 9, 0, 373], [0]),
   (.getfield 261, (89, 3, 24), [2, 6, 4, 272], [4]),
   (.getfield 265, (92, 3, 25), [0, 1, 3, 249], [3]),
   (.ireturn, (95, 1, 26), [0], []),
   (.aload_n 0, (96, 1, 27), [], []),
   (.getfield 22, (97, 3, 28), [2, 9, 0, 373], [0]),
   (.getfield 56, (100, 3, 29), [0, 6, 6, 276], [6]),
   (.ireturn, (103, 1, 30), [0], []),
   (.aload_n 0, (104, 1, 31), [], []),
   (.getfield 45, (105, 3, 32), [2, 9, 5, 378], [5])],
  [(.getfield 286, (108, 3, 33), [0, 0, 1, 358], [1]),
   (.ireturn, (111, 1, 34), [0], []),
   (.iconst (-1), (112, 1, 35), [], []),
   (.ireturn, (113, 1, 36), [0], [])]]
def rw_X_refusalOf : List (List xq_Row) := [
  [(.aload_n 0, (0, 1, 1), [], []),
   (.getfield 22, (1, 3, 2), [2, 9, 0, 373], [0]),
   (.getfield 114, (4, 3, 3), [2, 6, 1, 264], [1]),
   (.iload_n 1, (7, 1, 4), [], []),
   (.invokevirtual 122, (8, 3, 5), [26, 1, 0, 2, 0, 632, 633, 634, 635, 73], []),
   (.ifCond .ne 5, (11, 3, 6), [8], []),
   (.iconst (-1), (14, 1, 7), [], []),
   (.ireturn, (15, 1, 8), [0], []),
   (.iload_n 2, (16, 1, 9), [], []),
   (.invokestatic 81, (17, 3, 10), [130, 1, 0, 0, 1, 588, 589, 0, 590, 69], []),
   (.ifCond .eq 7, (20, 3, 11), [13], []),
   (.iconst 0, (23, 1, 12), [], []),
   (.goto 5, (24, 3, 13), [14], []),
   (.bipush (-2), (27, 2, 14), [], []),
   (.ireturn, (29, 1, 15), [0], [])]]
def rw_X_staysOne : List (List xq_Row) := [
  [(.aload_n 0, (0, 1, 1), [], []),
   (.getfield 22, (1, 3, 2), [2, 9, 0, 373], [0]),
   (.getfield 85, (4, 3, 3), [2, 6, 0, 261], [0]),
   (.getfield 105, (7, 3, 4), [2, 8, 0, 115], [0]),
   (.iload_n 2, (10, 1, 5), [], []),
   (.iaload, (11, 1, 6), [], []),
   (.istore_n 3, (12, 1, 7), [], []),
   (.aload_n 0, (13, 1, 8), [], []),
   (.getfield 12, (14, 3, 9), [2, 9, 4, 377], [4]),
   (.iload_n 1, (17, 1, 10), [], []),
   (.iload_n 3, (18, 1, 11), [], []),
   (.invokevirtual 190, (19, 3, 12), [32, 2, 0, 3, 0, 750, 659, 660, 661, 70], []),
   (.iload_n 3, (22, 1, 13), [], []),
   (.if_icmp .ne 7, (23, 3, 14), [16], []),
   (.iconst 1, (26, 1, 15), [], []),
   (.goto 4, (27, 3, 16), [17], [])],
  [(.iconst 0, (30, 1, 17), [], []),
   (.ireturn, (31, 1, 18), [1], [])]]
def rw_X_wayTo : List (List xq_Row) := [
  [(.iconst 1, (0, 1, 1), [], []),
   (.istore_n 3, (1, 1, 2), [], []),
   (.iload_n 3, (2, 1, 3), [], []),
   (.sipush 888, (3, 3, 4), [], []),
   (.if_icmp .gt 31, (6, 3, 5), [19], []),
   (.iload_n 3, (9, 1, 6), [], []),
   (.invokestatic 81, (10, 3, 7), [130, 1, 0, 0, 1, 588, 589, 0, 590, 69], []),
   (.ifCond .eq 18, (13, 3, 8), [17], []),
   (.aload_n 0, (16, 1, 9), [], []),
   (.getfield 12, (17, 3, 10), [2, 9, 4, 377], [4]),
   (.iload_n 1, (20, 1, 11), [], []),
   (.iload_n 3, (21, 1, 12), [], []),
   (.invokevirtual 190, (22, 3, 13), [32, 2, 0, 3, 0, 750, 659, 660, 661, 70], []),
   (.iload_n 2, (25, 1, 14), [], []),
   (.if_icmp .ne 5, (26, 3, 15), [17], []),
   (.iload_n 3, (29, 1, 16), [], [])],
  [(.ireturn, (30, 1, 17), [0], []),
   (.iinc 3 1, (31, 3, 18), [], []),
   (.goto (-32), (34, 3, 19), [2], []),
   (.aload_n 0, (37, 1, 20), [], []),
   (.getfield 12, (38, 3, 21), [2, 9, 4, 377], [4]),
   (.iload_n 1, (41, 1, 22), [], []),
   (.iload_n 2, (42, 1, 23), [], []),
   (.invokevirtual 190, (43, 3, 24), [32, 2, 0, 3, 0, 750, 659, 660, 661, 70], []),
   (.iload_n 2, (46, 1, 25), [], []),
   (.if_icmp .ne 7, (47, 3, 26), [28], []),
   (.iload_n 2, (50, 1, 27), [], []),
   (.goto 4, (51, 3, 28), [29], []),
   (.iconst 0, (54, 1, 29), [], []),
   (.ireturn, (55, 1, 30), [0], [])]]
def rw_X_shortWays : List (List xq_Row) := [
  [(.iconst 0, (0, 1, 1), [], []),
   (.istore_n 2, (1, 1, 2), [], []),
   (.iload_n 2, (2, 1, 3), [], []),
   (.bipush 8, (3, 2, 4), [], []),
   (.if_icmp .ge 16, (5, 3, 5), [12], []),
   (.aload_n 0, (8, 1, 6), [], []),
   (.getfield 49, (9, 3, 7), [2, 9, 6, 379], [6]),
   (.iload_n 2, (12, 1, 8), [], []),
   (.iconst 0, (13, 1, 9), [], []),
   (.iastore, (14, 1, 10), [], []),
   (.iinc 2 1, (15, 3, 11), [], []),
   (.goto (-16), (18, 3, 12), [2], []),
   (.iconst 0, (21, 1, 13), [], []),
   (.istore_n 2, (22, 1, 14), [], []),
   (.iconst 1, (23, 1, 15), [], []),
   (.istore_n 3, (24, 1, 16), [], [])],
  [(.iload_n 3, (25, 1, 17), [], []),
   (.sipush 888, (26, 3, 18), [], []),
   (.if_icmp .gt 77, (29, 3, 19), [53], []),
   (.iload_n 3, (32, 1, 20), [], []),
   (.invokestatic 81, (33, 3, 21), [130, 1, 0, 0, 1, 588, 589, 0, 590, 69], []),
   (.ifCond .eq 25, (36, 3, 22), [32], []),
   (.aload_n 0, (39, 1, 23), [], []),
   (.getfield 22, (40, 3, 24), [2, 9, 0, 373], [0]),
   (.getfield 85, (43, 3, 25), [2, 6, 0, 261], [0]),
   (.aload_n 0, (46, 1, 26), [], []),
   (.getfield 12, (47, 3, 27), [2, 9, 4, 377], [4]),
   (.iload_n 1, (50, 1, 28), [], []),
   (.iload_n 3, (51, 1, 29), [], []),
   (.invokevirtual 190, (52, 3, 30), [32, 2, 0, 3, 0, 750, 659, 660, 661, 70], []),
   (.invokevirtual 89, (55, 3, 31), [75, 1, 0, 8, 0, 595, 596, 597, 598, 72], []),
   (.goto 4, (58, 3, 32), [33], [])],
  [(.iconst (-1), (61, 1, 33), [], []),
   (.istore 4, (62, 2, 34), [], []),
   (.aload_n 0, (64, 1, 35), [], []),
   (.getfield 22, (65, 3, 36), [2, 9, 0, 373], [0]),
   (.getfield 85, (68, 3, 37), [2, 6, 0, 261], [0]),
   (.iload 4, (71, 2, 38), [], []),
   (.invokevirtual 102, (73, 3, 39), [73, 1, 0, 8, 0, 608, 609, 610, 611, 72], []),
   (.ifCond .eq 24, (76, 3, 40), [51], []),
   (.iinc 2 1, (79, 3, 41), [], []),
   (.aload_n 0, (82, 1, 42), [], []),
   (.getfield 49, (83, 3, 43), [2, 9, 6, 379], [6]),
   (.iload 4, (86, 2, 44), [], []),
   (.iaload, (88, 1, 45), [], []),
   (.ifCond .ne 11, (89, 3, 46), [51], []),
   (.aload_n 0, (92, 1, 47), [], []),
   (.getfield 49, (93, 3, 48), [2, 9, 6, 379], [6])],
  [(.iload 4, (96, 2, 49), [], []),
   (.iload_n 3, (98, 1, 50), [], []),
   (.iastore, (99, 1, 51), [], []),
   (.iinc 3 1, (100, 3, 52), [], []),
   (.goto (-78), (103, 3, 53), [16], []),
   (.iload_n 2, (106, 1, 54), [], []),
   (.ireturn, (107, 1, 55), [0], [])]]
def rw_X_runChain : List (List xq_Row) := [
  [(.aload_n 0, (0, 1, 1), [], []),
   (.getfield 22, (1, 3, 2), [2, 9, 0, 373], [0]),
   (.getfield 85, (4, 3, 3), [2, 6, 0, 261], [0]),
   (.getfield 99, (7, 3, 4), [0, 8, 5, 128], [5]),
   (.istore_n 3, (10, 1, 5), [], []),
   (.aload_n 0, (11, 1, 6), [], []),
   (.getfield 22, (12, 3, 7), [2, 9, 0, 373], [0]),
   (.getfield 85, (15, 3, 8), [2, 6, 0, 261], [0]),
   (.getfield 105, (18, 3, 9), [2, 8, 0, 115], [0]),
   (.aload_n 0, (21, 1, 10), [], []),
   (.getfield 53, (22, 3, 11), [2, 9, 7, 380], [7]),
   (.invokestatic 147, (25, 3, 12), [127, 2, 0, 0, 1, 716, 580, 0, 581, 69], []),
   (.aload_n 0, (28, 1, 13), [], []),
   (.getfield 12, (29, 3, 14), [2, 9, 4, 377], [4]),
   (.invokevirtual 139, (32, 3, 15), [30, 0, 0, 3, 0, 644, 645, 646, 647, 70], []),
   (.aload_n 0, (35, 1, 16), [], [])],
  [(.getfield 12, (36, 3, 17), [2, 9, 4, 377], [4]),
   (.iconst (-1), (39, 1, 18), [], []),
   (.putfield 301, (40, 3, 19), [0, 3, 3, 303, 0], [3]),
   (.bipush (-5), (43, 2, 20), [], []),
   (.istore 4, (45, 2, 21), [], []),
   (.iconst 0, (47, 1, 22), [], []),
   (.istore 5, (48, 2, 23), [], []),
   (.iload 5, (50, 2, 24), [], []),
   (.iload_n 2, (52, 1, 25), [], []),
   (.if_icmp .ge 93, (53, 3, 26), [70], []),
   (.iconst 1, (56, 1, 27), [], []),
   (.istore 6, (57, 2, 28), [], []),
   (.iconst 0, (59, 1, 29), [], []),
   (.istore 7, (60, 2, 30), [], []),
   (.iload 7, (62, 2, 31), [], []),
   (.iload_n 3, (64, 1, 32), [], [])],
  [(.if_icmp .ge 59, (65, 3, 33), [61], []),
   (.aload_n 0, (68, 1, 34), [], []),
   (.getfield 12, (69, 3, 35), [2, 9, 4, 377], [4]),
   (.iload_n 1, (72, 1, 36), [], []),
   (.aload_n 0, (73, 1, 37), [], []),
   (.getfield 53, (74, 3, 38), [2, 9, 7, 380], [7]),
   (.iload 7, (77, 2, 39), [], []),
   (.iaload, (79, 1, 40), [], []),
   (.invokevirtual 142, (80, 3, 41), [31, 2, 0, 3, 0, 654, 655, 656, 657, 70], []),
   (.istore 8, (83, 2, 42), [], []),
   (.iload 6, (85, 2, 43), [], []),
   (.ifCond .eq 19, (87, 3, 44), [52], []),
   (.iload 8, (90, 2, 45), [], []),
   (.aload_n 0, (92, 1, 46), [], []),
   (.getfield 53, (93, 3, 47), [2, 9, 7, 380], [7]),
   (.iload 7, (96, 2, 48), [], [])],
  [(.iaload, (98, 1, 49), [], []),
   (.if_icmp .ne 7, (99, 3, 50), [52], []),
   (.iconst 1, (102, 1, 51), [], []),
   (.goto 4, (103, 3, 52), [53], []),
   (.iconst 0, (106, 1, 53), [], []),
   (.istore 6, (107, 2, 54), [], []),
   (.aload_n 0, (109, 1, 55), [], []),
   (.getfield 53, (110, 3, 56), [2, 9, 7, 380], [7]),
   (.iload 7, (113, 2, 57), [], []),
   (.iload 8, (115, 2, 58), [], []),
   (.iastore, (117, 1, 59), [], []),
   (.iinc 7 1, (118, 3, 60), [], []),
   (.goto (-59), (121, 3, 61), [30], []),
   (.iload 6, (124, 2, 62), [], []),
   (.ifCond .eq 14, (126, 3, 63), [68], []),
   (.iload 4, (129, 2, 64), [], [])],
  [(.bipush (-5), (131, 2, 65), [], []),
   (.if_icmp .ne 7, (133, 3, 66), [68], []),
   (.iload 5, (136, 2, 67), [], []),
   (.istore 4, (138, 2, 68), [], []),
   (.iinc 5 1, (140, 3, 69), [], []),
   (.goto (-93), (143, 3, 70), [23], []),
   (.iload 4, (146, 2, 71), [], []),
   (.ireturn, (148, 1, 72), [0], [])]]
def rw_X_waysFrom : List (List xq_Row) := [
  [(.aload_n 0, (0, 1, 1), [], []),
   (.getfield 22, (1, 3, 2), [2, 9, 0, 373], [0]),
   (.getfield 85, (4, 3, 3), [2, 6, 0, 261], [0]),
   (.getfield 105, (7, 3, 4), [2, 8, 0, 115], [0]),
   (.iload_n 2, (10, 1, 5), [], []),
   (.iaload, (11, 1, 6), [], []),
   (.istore 4, (12, 2, 7), [], []),
   (.aload_n 0, (14, 1, 8), [], []),
   (.getfield 12, (15, 3, 9), [2, 9, 4, 377], [4]),
   (.iload_n 1, (18, 1, 10), [], []),
   (.iload 4, (19, 2, 11), [], []),
   (.invokevirtual 190, (21, 3, 12), [32, 2, 0, 3, 0, 750, 659, 660, 661, 70], []),
   (.iload_n 3, (24, 1, 13), [], []),
   (.if_icmp .ne 7, (25, 3, 14), [16], []),
   (.iconst 1, (28, 1, 15), [], []),
   (.goto 4, (29, 3, 16), [17], [])],
  [(.iconst 0, (32, 1, 17), [], []),
   (.istore 5, (33, 2, 18), [], []),
   (.iload 5, (35, 2, 19), [], []),
   (.aload_n 0, (37, 1, 20), [], []),
   (.getfield 12, (38, 3, 21), [2, 9, 4, 377], [4]),
   (.iload_n 1, (41, 1, 22), [], []),
   (.iload 4, (42, 2, 23), [], []),
   (.iload_n 3, (44, 1, 24), [], []),
   (.invokevirtual 226, (45, 3, 25), [36, 3, 0, 3, 0, 826, 827, 828, 829, 70], []),
   (.iadd, (48, 1, 26), [0], []),
   (.ireturn, (49, 1, 27), [0], [])]]
def rw_X_isAt : List (List xq_Row) := [
  [(.iload_n 0, (0, 1, 1), [], []),
   (.ifCond .lt 12, (1, 3, 2), [7], []),
   (.iload_n 0, (4, 1, 3), [], []),
   (.iload_n 1, (5, 1, 4), [], []),
   (.if_icmp .ge 7, (6, 3, 5), [7], []),
   (.iconst 1, (9, 1, 6), [], []),
   (.goto 4, (10, 3, 7), [8], []),
   (.iconst 0, (13, 1, 8), [], []),
   (.ireturn, (14, 1, 9), [1], [])]]
def rw_X_copyInts : List (List xq_Row) := [
  [(.aload_n 0, (0, 1, 1), [], []),
   (.arraylength, (1, 1, 2), [], []),
   (.aload_n 1, (2, 1, 3), [], []),
   (.arraylength, (3, 1, 4), [], []),
   (.invokestatic 289, (4, 3, 5), [0, 2, 0, 0, 1, 582, 411, 0, 412, 80], []),
   (.istore_n 2, (7, 1, 6), [], []),
   (.iconst 0, (8, 1, 7), [], []),
   (.istore_n 3, (9, 1, 8), [], []),
   (.iload_n 3, (10, 1, 9), [], []),
   (.iload_n 2, (11, 1, 10), [], []),
   (.if_icmp .ge 15, (12, 3, 11), [19], []),
   (.aload_n 1, (15, 1, 12), [], []),
   (.iload_n 3, (16, 1, 13), [], []),
   (.aload_n 0, (17, 1, 14), [], []),
   (.iload_n 3, (18, 1, 15), [], []),
   (.iaload, (19, 1, 16), [], [])],
  [(.iastore, (20, 1, 17), [], []),
   (.iinc 3 1, (21, 3, 18), [], []),
   (.goto (-14), (24, 3, 19), [8], []),
   (.return_, (27, 1, 20), [], [])]]
def rw_X_unlikeOf : List (List xq_Row) := [
  [(.iconst 0, (0, 1, 1), [], []),
   (.istore_n 2, (1, 1, 2), [], []),
   (.iconst 0, (2, 1, 3), [], []),
   (.istore_n 3, (3, 1, 4), [], []),
   (.iload_n 3, (4, 1, 5), [], []),
   (.iload_n 1, (5, 1, 6), [], []),
   (.if_icmp .ge 62, (6, 3, 7), [39], []),
   (.iconst 1, (9, 1, 8), [], []),
   (.istore 4, (10, 2, 9), [], []),
   (.iconst 0, (12, 1, 10), [], []),
   (.istore 5, (13, 2, 11), [], []),
   (.iload 5, (15, 2, 12), [], []),
   (.iload_n 3, (17, 1, 13), [], []),
   (.if_icmp .ge 31, (18, 3, 14), [29], []),
   (.iload 4, (21, 2, 15), [], []),
   (.ifCond .eq 17, (23, 3, 16), [25], [])],
  [(.aload_n 0, (26, 1, 17), [], []),
   (.iload 5, (27, 2, 18), [], []),
   (.iaload, (29, 1, 19), [], []),
   (.aload_n 0, (30, 1, 20), [], []),
   (.iload_n 3, (31, 1, 21), [], []),
   (.iaload, (32, 1, 22), [], []),
   (.if_icmp .eq 7, (33, 3, 23), [25], []),
   (.iconst 1, (36, 1, 24), [], []),
   (.goto 4, (37, 3, 25), [26], []),
   (.iconst 0, (40, 1, 26), [], []),
   (.istore 4, (41, 2, 27), [], []),
   (.iinc 5 1, (43, 3, 28), [], []),
   (.goto (-31), (46, 3, 29), [11], []),
   (.iload_n 2, (49, 1, 30), [], []),
   (.iload 4, (50, 2, 31), [], []),
   (.ifCond .eq 7, (52, 3, 32), [34], [])],
  [(.iconst 1, (55, 1, 33), [], []),
   (.goto 4, (56, 3, 34), [35], []),
   (.iconst 0, (59, 1, 35), [], []),
   (.iadd, (60, 1, 36), [0], []),
   (.istore_n 2, (61, 1, 37), [], []),
   (.iinc 3 1, (62, 3, 38), [], []),
   (.goto (-61), (65, 3, 39), [4], []),
   (.iload_n 2, (68, 1, 40), [], []),
   (.ireturn, (69, 1, 41), [0], [])]]
def rw_X_isUnder : List (List xq_Row) := [
  [(.iload_n 0, (0, 1, 1), [], []),
   (.istore_n 2, (1, 1, 2), [], []),
   (.iconst 0, (2, 1, 3), [], []),
   (.istore_n 3, (3, 1, 4), [], []),
   (.iload_n 3, (4, 1, 5), [], []),
   (.bipush 7, (5, 2, 6), [], []),
   (.if_icmp .ge 32, (7, 3, 7), [23], []),
   (.iload_n 2, (10, 1, 8), [], []),
   (.ifCond .lt 28, (11, 3, 9), [23], []),
   (.iload_n 2, (14, 1, 10), [], []),
   (.bipush 7, (15, 2, 11), [], []),
   (.if_icmp .ge 22, (17, 3, 12), [23], []),
   (.iload_n 2, (20, 1, 13), [], []),
   (.iload_n 1, (21, 1, 14), [], []),
   (.if_icmp .ne 5, (22, 3, 15), [17], []),
   (.iconst 1, (25, 1, 16), [], [])],
  [(.ireturn, (26, 1, 17), [1], []),
   (.getstatic 303, (27, 3, 18), [0, 1001, 942, 0], []),
   (.iload_n 2, (30, 1, 19), [], []),
   (.iaload, (31, 1, 20), [], []),
   (.istore_n 2, (32, 1, 21), [], []),
   (.iinc 3 1, (33, 3, 22), [], []),
   (.goto (-32), (36, 3, 23), [4], []),
   (.iconst 0, (39, 1, 24), [], []),
   (.ireturn, (40, 1, 25), [1], [])]]
def rw_X_isWord : List (List xq_Row) := [
  [(.iload_n 0, (0, 1, 1), [], []),
   (.invokestatic 206, (1, 3, 2), [131, 1, 0, 0, 1, 591, 592, 0, 593, 69], []),
   (.ifCond .le 7, (4, 3, 3), [5], []),
   (.iconst 1, (7, 1, 4), [], []),
   (.goto 4, (8, 3, 5), [6], []),
   (.iconst 0, (11, 1, 6), [], []),
   (.ireturn, (12, 1, 7), [1], [])]]
def rw_X_lettersOf : List (List xq_Row) := [
  [(.iload_n 0, (0, 1, 1), [], []),
   (.iconst 1, (1, 1, 2), [], []),
   (.if_icmp .lt 10, (2, 3, 3), [6], []),
   (.iload_n 0, (5, 1, 4), [], []),
   (.ldc_w 306, (6, 3, 5), [0, 594], [88888]),
   (.if_icmp .le 5, (9, 3, 6), [8], []),
   (.iconst 0, (12, 1, 7), [], []),
   (.ireturn, (13, 1, 8), [0], []),
   (.iconst 0, (14, 1, 9), [], []),
   (.istore_n 1, (15, 1, 10), [], []),
   (.iload_n 0, (16, 1, 11), [], []),
   (.istore_n 2, (17, 1, 12), [], []),
   (.iload_n 1, (18, 1, 13), [], []),
   (.iconst 5, (19, 1, 14), [], []),
   (.if_icmp .ge 36, (20, 3, 15), [35], []),
   (.iload_n 2, (23, 1, 16), [], [])],
  [(.ifCond .le 32, (24, 3, 17), [35], []),
   (.iload_n 2, (27, 1, 18), [], []),
   (.bipush 10, (28, 2, 19), [], []),
   (.irem, (30, 1, 20), [], []),
   (.istore_n 3, (31, 1, 21), [], []),
   (.iload_n 3, (32, 1, 22), [], []),
   (.iconst 1, (33, 1, 23), [], []),
   (.if_icmp .lt 9, (34, 3, 24), [27], []),
   (.iload_n 3, (37, 1, 25), [], []),
   (.bipush 8, (38, 2, 26), [], []),
   (.if_icmp .le 5, (40, 3, 27), [29], []),
   (.iconst 0, (43, 1, 28), [], []),
   (.ireturn, (44, 1, 29), [0], []),
   (.iinc 1 1, (45, 3, 30), [], []),
   (.iload_n 2, (48, 1, 31), [], []),
   (.bipush 10, (49, 2, 32), [], [])],
  [(.idiv, (51, 1, 33), [], []),
   (.istore_n 2, (52, 1, 34), [], []),
   (.goto (-35), (53, 3, 35), [12], []),
   (.iload_n 1, (56, 1, 36), [], []),
   (.ireturn, (57, 1, 37), [0], [])]]
def rw_X_withoutLast : List (List xq_Row) := [
  [(.iload_n 0, (0, 1, 1), [], []),
   (.istore_n 2, (1, 1, 2), [], []),
   (.iconst 0, (2, 1, 3), [], []),
   (.istore_n 3, (3, 1, 4), [], []),
   (.iload_n 3, (4, 1, 5), [], []),
   (.iload_n 1, (5, 1, 6), [], []),
   (.if_icmp .ge 19, (6, 3, 7), [16], []),
   (.iload_n 3, (9, 1, 8), [], []),
   (.iconst 5, (10, 1, 9), [], []),
   (.if_icmp .ge 14, (11, 3, 10), [16], []),
   (.iload_n 2, (14, 1, 11), [], []),
   (.bipush 10, (15, 2, 12), [], []),
   (.idiv, (17, 1, 13), [], []),
   (.istore_n 2, (18, 1, 14), [], []),
   (.iinc 3 1, (19, 3, 15), [], []),
   (.goto (-18), (22, 3, 16), [4], [])],
  [(.iload_n 2, (25, 1, 17), [], []),
   (.ireturn, (26, 1, 18), [0], [])]]
def rw_X_isNear : List (List xq_Row) := [
  [(.iload_n 0, (0, 1, 1), [], []),
   (.iload_n 1, (1, 1, 2), [], []),
   (.if_icmp .ge 9, (2, 3, 3), [7], []),
   (.iload_n 1, (5, 1, 4), [], []),
   (.iload_n 0, (6, 1, 5), [], []),
   (.isub, (7, 1, 6), [0], []),
   (.goto 6, (8, 3, 7), [10], []),
   (.iload_n 0, (11, 1, 8), [], []),
   (.iload_n 1, (12, 1, 9), [], []),
   (.isub, (13, 1, 10), [0], []),
   (.istore_n 2, (14, 1, 11), [], []),
   (.iload_n 2, (15, 1, 12), [], []),
   (.iconst 4, (16, 1, 13), [], []),
   (.if_icmp .eq 16, (17, 3, 14), [22], []),
   (.iload_n 2, (20, 1, 15), [], []),
   (.iconst 1, (21, 1, 16), [], [])],
  [(.if_icmp .ne 15, (22, 3, 17), [24], []),
   (.iload_n 0, (25, 1, 18), [], []),
   (.iload_n 1, (26, 1, 19), [], []),
   (.iadd, (27, 1, 20), [0], []),
   (.bipush 9, (28, 2, 21), [], []),
   (.if_icmp .eq 7, (30, 3, 22), [24], []),
   (.iconst 1, (33, 1, 23), [], []),
   (.goto 4, (34, 3, 24), [25], []),
   (.iconst 0, (37, 1, 25), [], []),
   (.ireturn, (38, 1, 26), [1], [])]]
def rw_X_slipsOf : List (List xq_Row) := [
  [(.iconst 0, (0, 1, 1), [], []),
   (.istore_n 1, (1, 1, 2), [], []),
   (.iload_n 0, (2, 1, 3), [], []),
   (.istore_n 2, (3, 1, 4), [], []),
   (.iconst 0, (4, 1, 5), [], []),
   (.istore_n 3, (5, 1, 6), [], []),
   (.iload_n 3, (6, 1, 7), [], []),
   (.iconst 5, (7, 1, 8), [], []),
   (.if_icmp .ge 54, (8, 3, 9), [36], []),
   (.iload_n 2, (11, 1, 10), [], []),
   (.ifCond .le 50, (12, 3, 11), [36], []),
   (.iconst 1, (15, 1, 12), [], []),
   (.istore 4, (16, 2, 13), [], []),
   (.iload 4, (18, 2, 14), [], []),
   (.bipush 8, (20, 2, 15), [], []),
   (.if_icmp .gt 29, (22, 3, 16), [30], [])],
  [(.iload_n 1, (25, 1, 17), [], []),
   (.iload_n 2, (26, 1, 18), [], []),
   (.bipush 10, (27, 2, 19), [], []),
   (.irem, (29, 1, 20), [], []),
   (.iload 4, (30, 2, 21), [], []),
   (.invokestatic 307, (32, 3, 22), [133, 2, 0, 0, 1, 833, 695, 0, 696, 69], []),
   (.ifCond .eq 7, (35, 3, 23), [25], []),
   (.iconst 1, (38, 1, 24), [], []),
   (.goto 4, (39, 3, 25), [26], []),
   (.iconst 0, (42, 1, 26), [], []),
   (.iadd, (43, 1, 27), [0], []),
   (.istore_n 1, (44, 1, 28), [], []),
   (.iinc 4 1, (45, 3, 29), [], []),
   (.goto (-30), (48, 3, 30), [13], []),
   (.iload_n 2, (51, 1, 31), [], []),
   (.bipush 10, (52, 2, 32), [], [])],
  [(.idiv, (54, 1, 33), [], []),
   (.istore_n 2, (55, 1, 34), [], []),
   (.iinc 3 1, (56, 3, 35), [], []),
   (.goto (-53), (59, 3, 36), [6], []),
   (.iload_n 1, (62, 1, 37), [], []),
   (.ireturn, (63, 1, 38), [0], [])]]
def rw_X_partOf : List (List xq_Row) := [
  [(.iload_n 0, (0, 1, 1), [], []),
   (.istore_n 3, (1, 1, 2), [], []),
   (.iload_n 1, (2, 1, 3), [], []),
   (.istore 4, (3, 2, 4), [], []),
   (.iconst 0, (5, 1, 5), [], []),
   (.istore 5, (6, 2, 6), [], []),
   (.iload 5, (8, 2, 7), [], []),
   (.bipush 100, (10, 2, 8), [], []),
   (.if_icmp .ge 25, (12, 3, 9), [21], []),
   (.iload_n 3, (15, 1, 10), [], []),
   (.ifCond .eq 21, (16, 3, 11), [21], []),
   (.iload 4, (19, 2, 12), [], []),
   (.iload_n 3, (21, 1, 13), [], []),
   (.irem, (22, 1, 14), [], []),
   (.istore 6, (23, 2, 15), [], []),
   (.iload_n 3, (25, 1, 16), [], [])],
  [(.istore 4, (26, 2, 17), [], []),
   (.iload 6, (28, 2, 18), [], []),
   (.istore_n 3, (30, 1, 19), [], []),
   (.iinc 5 1, (31, 3, 20), [], []),
   (.goto (-26), (34, 3, 21), [6], []),
   (.iload 4, (37, 2, 22), [], []),
   (.ifCond .ne 7, (39, 3, 23), [25], []),
   (.ldc2_w 224, (42, 3, 24), [825], [-9223372036854775808]),
   (.lreturn, (45, 1, 25), [], []),
   (.iload_n 2, (46, 1, 26), [], []),
   (.ifCond .ne 11, (47, 3, 27), [32], []),
   (.iload_n 0, (50, 1, 28), [], []),
   (.iload 4, (51, 2, 29), [], []),
   (.idiv, (53, 1, 30), [], []),
   (.i2l, (54, 1, 31), [], []),
   (.goto 8, (55, 3, 32), [36], [])],
  [(.iload_n 1, (58, 1, 33), [], []),
   (.iload 4, (59, 2, 34), [], []),
   (.idiv, (61, 1, 35), [], []),
   (.i2l, (62, 1, 36), [], []),
   (.lreturn, (63, 1, 37), [], [])]]
def rw_M_init : List (List xq_Row) := [
  [(.aload_n 0, (0, 1, 1), [], []),
   (.invokespecial 3, (1, 3, 2), [986], []),
   (.aload_n 0, (4, 1, 3), [], []),
   (.sipush 949, (5, 3, 4), [], []),
   (.newarray .int, (8, 2, 5), [0], []),
   (.putfield 9, (10, 3, 6), [2, 10, 1, 987, 1], [1]),
   (.aload_n 0, (13, 1, 7), [], []),
   (.sipush 949, (14, 3, 8), [], []),
   (.newarray .int, (17, 2, 9), [0], []),
   (.putfield 15, (19, 3, 10), [2, 10, 2, 988, 1], [2]),
   (.aload_n 0, (22, 1, 11), [], []),
   (.bipush 10, (23, 2, 12), [], []),
   (.newarray .int, (25, 2, 13), [0], []),
   (.putfield 18, (27, 3, 14), [2, 10, 3, 989, 1], [3]),
   (.aload_n 0, (30, 1, 15), [], []),
   (.bipush 6, (31, 2, 16), [], [])],
  [(.newarray .int, (33, 2, 17), [0], []),
   (.putfield 21, (35, 3, 18), [2, 10, 10, 996, 1], [10]),
   (.aload_n 0, (38, 1, 19), [], []),
   (.bipush 64, (39, 2, 20), [], []),
   (.newarray .boolean, (41, 2, 21), [1], []),
   (.putfield 24, (43, 3, 22), [2, 10, 11, 997, 1], [11]),
   (.aload_n 0, (46, 1, 23), [], []),
   (.bipush 6, (47, 2, 24), [], []),
   (.newarray .int, (49, 2, 25), [0], []),
   (.putfield 28, (51, 3, 26), [2, 10, 12, 998, 1], [12]),
   (.aload_n 0, (54, 1, 27), [], []),
   (.bipush 6, (55, 2, 28), [], []),
   (.newarray .int, (57, 2, 29), [0], []),
   (.putfield 31, (59, 3, 30), [2, 10, 13, 999, 1], [13]),
   (.aload_n 0, (62, 1, 31), [], []),
   (.bipush 6, (63, 2, 32), [], [])],
  [(.newarray .int, (65, 2, 33), [0], []),
   (.putfield 34, (67, 3, 34), [2, 10, 14, 1000, 1], [14]),
   (.aload_n 0, (70, 1, 35), [], []),
   (.bipush 6, (71, 2, 36), [], []),
   (.newarray .int, (73, 2, 37), [0], []),
   (.putfield 37, (75, 3, 38), [2, 10, 15, 1001, 1], [15]),
   (.aload_n 0, (78, 1, 39), [], []),
   (.bipush 8, (79, 2, 40), [], []),
   (.newarray .int, (81, 2, 41), [0], []),
   (.putfield 40, (83, 3, 42), [2, 10, 16, 1002, 1], [16]),
   (.aload_n 0, (86, 1, 43), [], []),
   (.sipush 584, (87, 3, 44), [], []),
   (.newarray .int, (90, 2, 45), [0], []),
   (.putfield 43, (92, 3, 46), [2, 10, 17, 1003, 1], [17]),
   (.aload_n 0, (95, 1, 47), [], []),
   (.sipush 584, (96, 3, 48), [], [])],
  [(.newarray .int, (99, 2, 49), [0], []),
   (.putfield 46, (101, 3, 50), [2, 10, 18, 1004, 1], [18]),
   (.aload_n 0, (104, 1, 51), [], []),
   (.bipush 12, (105, 2, 52), [], []),
   (.newarray .int, (107, 2, 53), [0], []),
   (.putfield 49, (109, 3, 54), [2, 10, 22, 1008, 1], [22]),
   (.aload_n 0, (112, 1, 55), [], []),
   (.bipush 8, (113, 2, 56), [], []),
   (.newarray .int, (115, 2, 57), [0], []),
   (.putfield 52, (117, 3, 58), [2, 10, 25, 1011, 1], [25]),
   (.aload_n 0, (120, 1, 59), [], []),
   (.bipush 20, (121, 2, 60), [], []),
   (.newarray .int, (123, 2, 61), [0], []),
   (.putfield 55, (125, 3, 62), [2, 10, 26, 1012, 1], [26]),
   (.aload_n 0, (128, 1, 63), [], []),
   (.getfield 9, (129, 3, 64), [2, 10, 1, 987], [1])],
  [(.bipush 17, (132, 2, 65), [], []),
   (.iconst (-1), (134, 1, 66), [], []),
   (.iastore, (135, 1, 67), [], []),
   (.return_, (136, 1, 68), [], [])]]
def rw_M_in : List (List xq_Row) := [
  [(.iload_n 0, (0, 1, 1), [], []),
   (.iload_n 1, (1, 1, 2), [], []),
   (.if_icmp .lt 12, (2, 3, 3), [8], []),
   (.iload_n 0, (5, 1, 4), [], []),
   (.iload_n 2, (6, 1, 5), [], []),
   (.if_icmp .gt 7, (7, 3, 6), [8], []),
   (.iconst 1, (10, 1, 7), [], []),
   (.goto 4, (11, 3, 8), [9], []),
   (.iconst 0, (14, 1, 9), [], []),
   (.ireturn, (15, 1, 10), [1], [])]]
def rw_M_isMender : List (List xq_Row) := [
  [(.iload_n 1, (0, 1, 1), [], []),
   (.iconst 0, (1, 1, 2), [], []),
   (.aload_n 0, (2, 1, 3), [], []),
   (.getfield 9, (3, 3, 4), [2, 10, 1, 987], [1]),
   (.bipush 10, (6, 2, 5), [], []),
   (.iaload, (8, 1, 6), [], []),
   (.iconst 1, (9, 1, 7), [], []),
   (.isub, (10, 1, 8), [0], []),
   (.invokestatic 62, (11, 3, 9), [137, 3, 0, 0, 1, 1085, 1086, 0, 1087, 79], []),
   (.ireturn, (14, 1, 10), [1], [])]]
def rw_M_isListed : List (List xq_Row) := [
  [(.iload_n 1, (0, 1, 1), [], []),
   (.iconst 0, (1, 1, 2), [], []),
   (.aload_n 0, (2, 1, 3), [], []),
   (.getfield 9, (3, 3, 4), [2, 10, 1, 987], [1]),
   (.bipush 11, (6, 2, 5), [], []),
   (.iaload, (8, 1, 6), [], []),
   (.iconst 1, (9, 1, 7), [], []),
   (.isub, (10, 1, 8), [0], []),
   (.invokestatic 62, (11, 3, 9), [137, 3, 0, 0, 1, 1085, 1086, 0, 1087, 79], []),
   (.ireturn, (14, 1, 10), [1], [])]]
def rw_M_isWord : List (List xq_Row) := [
  [(.iload_n 0, (0, 1, 1), [], []),
   (.iconst 1, (1, 1, 2), [], []),
   (.ldc 66, (2, 2, 3), [0, 1155], [88888]),
   (.invokestatic 62, (4, 3, 4), [137, 3, 0, 0, 1, 1085, 1086, 0, 1087, 79], []),
   (.istore_n 1, (7, 1, 5), [], []),
   (.iload_n 0, (8, 1, 6), [], []),
   (.istore_n 2, (9, 1, 7), [], []),
   (.iload_n 1, (10, 1, 8), [], []),
   (.ifCond .eq 26, (11, 3, 9), [23], []),
   (.iload_n 2, (14, 1, 10), [], []),
   (.ifCond .le 22, (15, 3, 11), [23], []),
   (.iload_n 2, (18, 1, 12), [], []),
   (.bipush 10, (19, 2, 13), [], []),
   (.irem, (21, 1, 14), [], []),
   (.iconst 1, (22, 1, 15), [], []),
   (.bipush 8, (23, 2, 16), [], [])],
  [(.invokestatic 62, (25, 3, 17), [137, 3, 0, 0, 1, 1085, 1086, 0, 1087, 79], []),
   (.istore_n 1, (28, 1, 18), [], []),
   (.iload_n 2, (29, 1, 19), [], []),
   (.bipush 10, (30, 2, 20), [], []),
   (.idiv, (32, 1, 21), [], []),
   (.istore_n 2, (33, 1, 22), [], []),
   (.goto (-24), (34, 3, 23), [7], []),
   (.iload_n 1, (37, 1, 24), [], []),
   (.ireturn, (38, 1, 25), [1], [])]]
def rw_M_size : List (List xq_Row) := [
  [(.iconst 0, (0, 1, 1), [], []),
   (.istore_n 1, (1, 1, 2), [], []),
   (.iload_n 0, (2, 1, 3), [], []),
   (.istore_n 2, (3, 1, 4), [], []),
   (.iload_n 2, (4, 1, 5), [], []),
   (.ifCond .le 14, (5, 3, 6), [12], []),
   (.iinc 1 1, (8, 3, 7), [], []),
   (.iload_n 2, (11, 1, 8), [], []),
   (.bipush 10, (12, 2, 9), [], []),
   (.idiv, (14, 1, 10), [], []),
   (.istore_n 2, (15, 1, 11), [], []),
   (.goto (-12), (16, 3, 12), [4], []),
   (.iload_n 1, (19, 1, 13), [], []),
   (.ireturn, (20, 1, 14), [0], [])]]
def rw_M_first : List (List xq_Row) := [
  [(.iload_n 0, (0, 1, 1), [], []),
   (.istore_n 2, (1, 1, 2), [], []),
   (.iload_n 0, (2, 1, 3), [], []),
   (.invokestatic 67, (3, 3, 4), [141, 1, 0, 0, 1, 1204, 1205, 0, 1206, 79], []),
   (.istore_n 3, (6, 1, 5), [], []),
   (.iload_n 3, (7, 1, 6), [], []),
   (.iload_n 1, (8, 1, 7), [], []),
   (.if_icmp .le 14, (9, 3, 8), [14], []),
   (.iload_n 2, (12, 1, 9), [], []),
   (.bipush 10, (13, 2, 10), [], []),
   (.idiv, (15, 1, 11), [], []),
   (.istore_n 2, (16, 1, 12), [], []),
   (.iinc 3 (-1), (17, 3, 13), [], []),
   (.goto (-13), (20, 3, 14), [5], []),
   (.iload_n 2, (23, 1, 15), [], []),
   (.ireturn, (24, 1, 16), [0], [])]]
def rw_M_keeps : List (List xq_Row) := [
  [(.iconst 0, (0, 1, 1), [], []),
   (.istore_n 1, (1, 1, 2), [], []),
   (.iload_n 1, (2, 1, 3), [], []),
   (.bipush 10, (3, 2, 4), [], []),
   (.if_icmp .ge 21, (5, 3, 5), [15], []),
   (.aload_n 0, (8, 1, 6), [], []),
   (.getfield 18, (9, 3, 7), [2, 10, 3, 989], [3]),
   (.iload_n 1, (12, 1, 8), [], []),
   (.aload_n 0, (13, 1, 9), [], []),
   (.getfield 9, (14, 3, 10), [2, 10, 1, 987], [1]),
   (.iload_n 1, (17, 1, 11), [], []),
   (.iaload, (18, 1, 12), [], []),
   (.iastore, (19, 1, 13), [], []),
   (.iinc 1 1, (20, 3, 14), [], []),
   (.goto (-21), (23, 3, 15), [2], []),
   (.return_, (26, 1, 16), [], [])]]
def rw_M_goesBack : List (List xq_Row) := [
  [(.iconst 0, (0, 1, 1), [], []),
   (.istore_n 1, (1, 1, 2), [], []),
   (.iload_n 1, (2, 1, 3), [], []),
   (.bipush 10, (3, 2, 4), [], []),
   (.if_icmp .ge 21, (5, 3, 5), [15], []),
   (.aload_n 0, (8, 1, 6), [], []),
   (.getfield 9, (9, 3, 7), [2, 10, 1, 987], [1]),
   (.iload_n 1, (12, 1, 8), [], []),
   (.aload_n 0, (13, 1, 9), [], []),
   (.getfield 18, (14, 3, 10), [2, 10, 3, 989], [3]),
   (.iload_n 1, (17, 1, 11), [], []),
   (.iaload, (18, 1, 12), [], []),
   (.iastore, (19, 1, 13), [], []),
   (.iinc 1 1, (20, 3, 14), [], []),
   (.goto (-21), (23, 3, 15), [2], []),
   (.return_, (26, 1, 16), [], [])]]
def rw_M_feed : List (List xq_Row) := [
  [(.iload_n 1, (0, 1, 1), [], []),
   (.iconst 0, (1, 1, 2), [], []),
   (.bipush 127, (2, 2, 3), [], []),
   (.invokestatic 62, (4, 3, 4), [137, 3, 0, 0, 1, 1085, 1086, 0, 1087, 79], []),
   (.ifCond .ne 6, (7, 3, 5), [7], []),
   (.bipush (-2), (10, 2, 6), [], []),
   (.ireturn, (12, 1, 7), [0], []),
   (.aload_n 0, (13, 1, 8), [], []),
   (.getfield 9, (14, 3, 9), [2, 10, 1, 987], [1]),
   (.bipush 15, (17, 2, 10), [], []),
   (.iaload, (19, 1, 11), [], []),
   (.bipush 100, (20, 2, 12), [], []),
   (.if_icmp .ne 6, (22, 3, 13), [15], []),
   (.bipush (-4), (25, 2, 14), [], []),
   (.ireturn, (27, 1, 15), [0], []),
   (.aload_n 0, (28, 1, 16), [], [])],
  [(.getfield 9, (29, 3, 17), [2, 10, 1, 987], [1]),
   (.sipush 134, (32, 3, 18), [], []),
   (.aload_n 0, (35, 1, 19), [], []),
   (.getfield 9, (36, 3, 20), [2, 10, 1, 987], [1]),
   (.bipush 15, (39, 2, 21), [], []),
   (.iaload, (41, 1, 22), [], []),
   (.iadd, (42, 1, 23), [0], []),
   (.iload_n 1, (43, 1, 24), [], []),
   (.iastore, (44, 1, 25), [], []),
   (.aload_n 0, (45, 1, 26), [], []),
   (.getfield 9, (46, 3, 27), [2, 10, 1, 987], [1]),
   (.bipush 15, (49, 2, 28), [], []),
   (.dup2, (51, 1, 29), [], []),
   (.iaload, (52, 1, 30), [], []),
   (.iconst 1, (53, 1, 31), [], []),
   (.iadd, (54, 1, 32), [0], [])],
  [(.iastore, (55, 1, 33), [], []),
   (.aload_n 0, (56, 1, 34), [], []),
   (.getfield 9, (57, 3, 35), [2, 10, 1, 987], [1]),
   (.bipush 15, (60, 2, 36), [], []),
   (.iaload, (62, 1, 37), [], []),
   (.ireturn, (63, 1, 38), [0], [])]]
def rw_M_here : List (List xq_Row) := [
  [(.aload_n 0, (0, 1, 1), [], []),
   (.getfield 71, (1, 3, 2), [0, 10, 6, 992], [6]),
   (.aload_n 0, (4, 1, 3), [], []),
   (.getfield 74, (5, 3, 4), [0, 10, 7, 993], [7]),
   (.if_icmp .ge 19, (8, 3, 5), [13], []),
   (.aload_n 0, (11, 1, 6), [], []),
   (.getfield 9, (12, 3, 7), [2, 10, 1, 987], [1]),
   (.sipush 134, (15, 3, 8), [], []),
   (.aload_n 0, (18, 1, 9), [], []),
   (.getfield 71, (19, 3, 10), [0, 10, 6, 992], [6]),
   (.iadd, (22, 1, 11), [0], []),
   (.iaload, (23, 1, 12), [], []),
   (.goto 4, (24, 3, 13), [14], []),
   (.iconst (-1), (27, 1, 14), [], []),
   (.ireturn, (28, 1, 15), [0], [])]]
def rw_M_must : List (List xq_Row) := [
  [(.aload_n 0, (0, 1, 1), [], []),
   (.aload_n 0, (1, 1, 2), [], []),
   (.getfield 77, (2, 3, 3), [1, 10, 8, 994], [8]),
   (.ifCond .ne 11, (5, 3, 4), [8], []),
   (.aload_n 0, (8, 1, 5), [], []),
   (.invokevirtual 81, (9, 3, 6), [146, 0, 0, 10, 0, 1096, 1098, 26, 1099, 79], []),
   (.iload_n 1, (12, 1, 7), [], []),
   (.if_icmp .eq 7, (13, 3, 8), [10], []),
   (.iconst 1, (16, 1, 9), [], []),
   (.goto 4, (17, 3, 10), [11], []),
   (.iconst 0, (20, 1, 11), [], []),
   (.putfield 77, (21, 3, 12), [1, 10, 8, 994, 0], [8]),
   (.aload_n 0, (24, 1, 13), [], []),
   (.dup, (25, 1, 14), [], []),
   (.getfield 71, (26, 3, 15), [0, 10, 6, 992], [6]),
   (.aload_n 0, (29, 1, 16), [], [])],
  [(.getfield 77, (30, 3, 17), [1, 10, 8, 994], [8]),
   (.ifCond .eq 7, (33, 3, 18), [20], []),
   (.iconst 0, (36, 1, 19), [], []),
   (.goto 4, (37, 3, 20), [21], []),
   (.iconst 1, (40, 1, 21), [], []),
   (.iadd, (41, 1, 22), [0], []),
   (.putfield 71, (42, 3, 23), [0, 10, 6, 992, 0], [6]),
   (.return_, (45, 1, 24), [], [])]]
def rw_M_spells : List (List xq_Row) := [
  [(.iconst 0, (0, 1, 1), [], []),
   (.istore_n 2, (1, 1, 2), [], []),
   (.iload_n 2, (2, 1, 3), [], []),
   (.aload_n 1, (3, 1, 4), [], []),
   (.invokevirtual 85, (4, 3, 5), [4, 0, 0, 99, 0, 1109, 437, 438, 439, 81], []),
   (.if_icmp .ge 18, (7, 3, 6), [13], []),
   (.aload_n 0, (10, 1, 7), [], []),
   (.aload_n 1, (11, 1, 8), [], []),
   (.iload_n 2, (12, 1, 9), [], []),
   (.invokevirtual 90, (13, 3, 10), [7, 1, 0, 99, 0, 1110, 447, 448, 449, 81], []),
   (.invokevirtual 94, (16, 3, 11), [147, 1, 0, 10, 0, 1111, 1113, 29, 1114, 79], []),
   (.iinc 2 1, (19, 3, 12), [], []),
   (.goto (-20), (22, 3, 13), [2], []),
   (.return_, (25, 1, 14), [], [])]]
def rw_M_figures : List (List xq_Row) := [
  [(.aload_n 0, (0, 1, 1), [], []),
   (.aload_n 0, (1, 1, 2), [], []),
   (.getfield 77, (2, 3, 3), [1, 10, 8, 994], [8]),
   (.ifCond .ne 17, (5, 3, 4), [10], []),
   (.aload_n 0, (8, 1, 5), [], []),
   (.invokevirtual 81, (9, 3, 6), [146, 0, 0, 10, 0, 1096, 1098, 26, 1099, 79], []),
   (.bipush 48, (12, 2, 7), [], []),
   (.bipush 57, (14, 2, 8), [], []),
   (.invokestatic 62, (16, 3, 9), [137, 3, 0, 0, 1, 1085, 1086, 0, 1087, 79], []),
   (.ifCond .ne 7, (19, 3, 10), [12], []),
   (.iconst 1, (22, 1, 11), [], []),
   (.goto 4, (23, 3, 12), [13], []),
   (.iconst 0, (26, 1, 13), [], []),
   (.putfield 77, (27, 3, 14), [1, 10, 8, 994, 0], [8]),
   (.iconst 0, (30, 1, 15), [], []),
   (.istore_n 1, (31, 1, 16), [], [])],
  [(.iconst 0, (32, 1, 17), [], []),
   (.istore_n 2, (33, 1, 18), [], []),
   (.iload_n 2, (34, 1, 19), [], []),
   (.iconst 2, (35, 1, 20), [], []),
   (.if_icmp .ge 61, (36, 3, 21), [51], []),
   (.aload_n 0, (39, 1, 22), [], []),
   (.getfield 77, (40, 3, 23), [1, 10, 8, 994], [8]),
   (.ifCond .ne 54, (43, 3, 24), [51], []),
   (.aload_n 0, (46, 1, 25), [], []),
   (.invokevirtual 81, (47, 3, 26), [146, 0, 0, 10, 0, 1096, 1098, 26, 1099, 79], []),
   (.bipush 48, (50, 2, 27), [], []),
   (.bipush 57, (52, 2, 28), [], []),
   (.invokestatic 62, (54, 3, 29), [137, 3, 0, 0, 1, 1085, 1086, 0, 1087, 79], []),
   (.ifCond .eq 40, (57, 3, 30), [51], []),
   (.iload_n 2, (60, 1, 31), [], []),
   (.ifCond .eq 7, (61, 3, 32), [34], [])],
  [(.iload_n 1, (64, 1, 33), [], []),
   (.ifCond .le 32, (65, 3, 34), [51], []),
   (.bipush 10, (68, 2, 35), [], []),
   (.iload_n 1, (70, 1, 36), [], []),
   (.imul, (71, 1, 37), [0], []),
   (.aload_n 0, (72, 1, 38), [], []),
   (.invokevirtual 81, (73, 3, 39), [146, 0, 0, 10, 0, 1096, 1098, 26, 1099, 79], []),
   (.iadd, (76, 1, 40), [0], []),
   (.bipush 48, (77, 2, 41), [], []),
   (.isub, (79, 1, 42), [0], []),
   (.istore_n 1, (80, 1, 43), [], []),
   (.aload_n 0, (81, 1, 44), [], []),
   (.dup, (82, 1, 45), [], []),
   (.getfield 71, (83, 3, 46), [0, 10, 6, 992], [6]),
   (.iconst 1, (86, 1, 47), [], []),
   (.iadd, (87, 1, 48), [0], [])],
  [(.putfield 71, (88, 3, 49), [0, 10, 6, 992, 0], [6]),
   (.iinc 2 1, (91, 3, 50), [], []),
   (.goto (-60), (94, 3, 51), [18], []),
   (.iload_n 1, (97, 1, 52), [], []),
   (.ireturn, (98, 1, 53), [0], [])]]
def rw_M_among : List (List xq_Row) := [
  [(.iconst 0, (0, 1, 1), [], []),
   (.istore_n 2, (1, 1, 2), [], []),
   (.iload_n 2, (2, 1, 3), [], []),
   (.aload_n 1, (3, 1, 4), [], []),
   (.invokevirtual 85, (4, 3, 5), [4, 0, 0, 99, 0, 1109, 437, 438, 439, 81], []),
   (.if_icmp .ge 33, (7, 3, 6), [22], []),
   (.aload_n 0, (10, 1, 7), [], []),
   (.invokevirtual 81, (11, 3, 8), [146, 0, 0, 10, 0, 1096, 1098, 26, 1099, 79], []),
   (.aload_n 1, (14, 1, 9), [], []),
   (.iload_n 2, (15, 1, 10), [], []),
   (.invokevirtual 90, (16, 3, 11), [7, 1, 0, 99, 0, 1110, 447, 448, 449, 81], []),
   (.if_icmp .ne 15, (19, 3, 12), [20], []),
   (.aload_n 0, (22, 1, 13), [], []),
   (.dup, (23, 1, 14), [], []),
   (.getfield 71, (24, 3, 15), [0, 10, 6, 992], [6]),
   (.iconst 1, (27, 1, 16), [], [])],
  [(.iadd, (28, 1, 17), [0], []),
   (.putfield 71, (29, 3, 18), [0, 10, 6, 992, 0], [6]),
   (.iload_n 2, (32, 1, 19), [], []),
   (.ireturn, (33, 1, 20), [0], []),
   (.iinc 2 1, (34, 3, 21), [], []),
   (.goto (-35), (37, 3, 22), [2], []),
   (.iconst (-1), (40, 1, 23), [], []),
   (.ireturn, (41, 1, 24), [0], [])]]
def rw_M_emits : List (List xq_Row) := [
  [(.aload_n 0, (0, 1, 1), [], []),
   (.getfield 77, (1, 3, 2), [1, 10, 8, 994], [8]),
   (.ifCond .ne 52, (4, 3, 3), [32], []),
   (.aload_n 0, (7, 1, 4), [], []),
   (.getfield 9, (8, 3, 5), [2, 10, 1, 987], [1]),
   (.sipush 249, (11, 3, 6), [], []),
   (.sipush 140, (14, 3, 7), [], []),
   (.aload_n 0, (17, 1, 8), [], []),
   (.getfield 98, (18, 3, 9), [0, 10, 5, 991], [5]),
   (.imul, (21, 1, 10), [0], []),
   (.iadd, (22, 1, 11), [0], []),
   (.aload_n 0, (23, 1, 12), [], []),
   (.getfield 9, (24, 3, 13), [2, 10, 1, 987], [1]),
   (.sipush 244, (27, 3, 14), [], []),
   (.aload_n 0, (30, 1, 15), [], []),
   (.getfield 98, (31, 3, 16), [0, 10, 5, 991], [5])],
  [(.iadd, (34, 1, 17), [0], []),
   (.iaload, (35, 1, 18), [], []),
   (.iadd, (36, 1, 19), [0], []),
   (.iload_n 1, (37, 1, 20), [], []),
   (.iastore, (38, 1, 21), [], []),
   (.aload_n 0, (39, 1, 22), [], []),
   (.getfield 9, (40, 3, 23), [2, 10, 1, 987], [1]),
   (.sipush 244, (43, 3, 24), [], []),
   (.aload_n 0, (46, 1, 25), [], []),
   (.getfield 98, (47, 3, 26), [0, 10, 5, 991], [5]),
   (.iadd, (50, 1, 27), [0], []),
   (.dup2, (51, 1, 28), [], []),
   (.iaload, (52, 1, 29), [], []),
   (.iconst 1, (53, 1, 30), [], []),
   (.iadd, (54, 1, 31), [0], []),
   (.iastore, (55, 1, 32), [], [])],
  [(.return_, (56, 1, 33), [], [])]]
def rw_M_factor : List (List xq_Row) := [
  [(.aload_n 0, (0, 1, 1), [], []),
   (.getfield 77, (1, 3, 2), [1, 10, 8, 994], [8]),
   (.ifCond .eq 4, (4, 3, 3), [4], []),
   (.return_, (7, 1, 4), [], []),
   (.aload_n 0, (8, 1, 5), [], []),
   (.invokevirtual 81, (9, 3, 6), [146, 0, 0, 10, 0, 1096, 1098, 26, 1099, 79], []),
   (.istore_n 1, (12, 1, 7), [], []),
   (.iload_n 1, (13, 1, 8), [], []),
   (.bipush 33, (14, 2, 9), [], []),
   (.if_icmp .eq 9, (16, 3, 10), [13], []),
   (.iload_n 1, (19, 1, 11), [], []),
   (.bipush 40, (20, 2, 12), [], []),
   (.if_icmp .ne 90, (22, 3, 13), [60], []),
   (.aload_n 0, (25, 1, 14), [], []),
   (.aload_n 0, (26, 1, 15), [], []),
   (.getfield 101, (27, 3, 16), [0, 10, 9, 995], [9])],
  [(.iconst 5, (30, 1, 17), [], []),
   (.if_icmp .ne 7, (31, 3, 18), [20], []),
   (.iconst 1, (34, 1, 19), [], []),
   (.goto 4, (35, 3, 20), [21], []),
   (.iconst 0, (38, 1, 21), [], []),
   (.putfield 77, (39, 3, 22), [1, 10, 8, 994, 0], [8]),
   (.aload_n 0, (42, 1, 23), [], []),
   (.dup, (43, 1, 24), [], []),
   (.getfield 101, (44, 3, 25), [0, 10, 9, 995], [9]),
   (.iconst 1, (47, 1, 26), [], []),
   (.iadd, (48, 1, 27), [0], []),
   (.putfield 101, (49, 3, 28), [0, 10, 9, 995, 0], [9]),
   (.aload_n 0, (52, 1, 29), [], []),
   (.dup, (53, 1, 30), [], []),
   (.getfield 71, (54, 3, 31), [0, 10, 6, 992], [6]),
   (.aload_n 0, (57, 1, 32), [], [])],
  [(.getfield 77, (58, 3, 33), [1, 10, 8, 994], [8]),
   (.ifCond .eq 7, (61, 3, 34), [36], []),
   (.iconst 0, (64, 1, 35), [], []),
   (.goto 4, (65, 3, 36), [37], []),
   (.iconst 1, (68, 1, 37), [], []),
   (.iadd, (69, 1, 38), [0], []),
   (.putfield 71, (70, 3, 39), [0, 10, 6, 992, 0], [6]),
   (.iload_n 1, (73, 1, 40), [], []),
   (.bipush 33, (74, 2, 41), [], []),
   (.if_icmp .ne 15, (76, 3, 42), [48], []),
   (.aload_n 0, (79, 1, 43), [], []),
   (.invokevirtual 104, (80, 3, 44), [152, 0, 0, 10, 0, 1133, 1135, 34, 1136, 79], []),
   (.aload_n 0, (83, 1, 45), [], []),
   (.iconst (-1), (84, 1, 46), [], []),
   (.invokevirtual 107, (85, 3, 47), [151, 1, 0, 10, 0, 1137, 1139, 35, 1140, 79], []),
   (.goto 13, (88, 3, 48), [53], [])],
  [(.aload_n 0, (91, 1, 49), [], []),
   (.invokevirtual 110, (92, 3, 50), [154, 0, 0, 10, 0, 1125, 1127, 32, 1128, 79], []),
   (.aload_n 0, (95, 1, 51), [], []),
   (.bipush 41, (96, 2, 52), [], []),
   (.invokevirtual 94, (98, 3, 53), [147, 1, 0, 10, 0, 1111, 1113, 29, 1114, 79], []),
   (.aload_n 0, (101, 1, 54), [], []),
   (.dup, (102, 1, 55), [], []),
   (.getfield 101, (103, 3, 56), [0, 10, 9, 995], [9]),
   (.iconst 1, (106, 1, 57), [], []),
   (.isub, (107, 1, 58), [0], []),
   (.putfield 101, (108, 3, 59), [0, 10, 9, 995, 0], [9]),
   (.return_, (111, 1, 60), [], []),
   (.aload_n 0, (112, 1, 61), [], []),
   (.ldc 113, (113, 2, 62), [1, 8, 9], []),
   (.invokevirtual 115, (115, 3, 63), [150, 1, 0, 10, 0, 1142, 1144, 36, 1145, 79], []),
   (.istore_n 2, (118, 1, 64), [], [])],
  [(.aload_n 0, (119, 1, 65), [], []),
   (.iload_n 2, (120, 1, 66), [], []),
   (.iconst (-1), (121, 1, 67), [], []),
   (.if_icmp .ne 7, (122, 3, 68), [70], []),
   (.iconst 1, (125, 1, 69), [], []),
   (.goto 4, (126, 3, 70), [71], []),
   (.iconst 0, (129, 1, 71), [], []),
   (.putfield 77, (130, 3, 72), [1, 10, 8, 994, 0], [8]),
   (.aload_n 0, (133, 1, 73), [], []),
   (.getfield 77, (134, 3, 74), [1, 10, 8, 994], [8]),
   (.ifCond .eq 7, (137, 3, 75), [77], []),
   (.iconst 0, (140, 1, 76), [], []),
   (.goto 9, (141, 3, 77), [80], []),
   (.aload_n 0, (144, 1, 78), [], []),
   (.ldc 119, (145, 2, 79), [1, 9, 10], []),
   (.invokevirtual 115, (147, 3, 80), [150, 1, 0, 10, 0, 1142, 1144, 36, 1145, 79], [])],
  [(.istore_n 3, (150, 1, 81), [], []),
   (.aload_n 0, (151, 1, 82), [], []),
   (.aload_n 0, (152, 1, 83), [], []),
   (.getfield 77, (153, 3, 84), [1, 10, 8, 994], [8]),
   (.ifCond .ne 8, (156, 3, 85), [88], []),
   (.iload_n 3, (159, 1, 86), [], []),
   (.iconst (-1), (160, 1, 87), [], []),
   (.if_icmp .ne 7, (161, 3, 88), [90], []),
   (.iconst 1, (164, 1, 89), [], []),
   (.goto 4, (165, 3, 90), [91], []),
   (.iconst 0, (168, 1, 91), [], []),
   (.putfield 77, (169, 3, 92), [1, 10, 8, 994, 0], [8]),
   (.aload_n 0, (172, 1, 93), [], []),
   (.invokevirtual 121, (173, 3, 94), [149, 0, 0, 10, 0, 1115, 1117, 30, 1118, 79], []),
   (.istore 4, (176, 2, 95), [], []),
   (.aload_n 0, (178, 1, 96), [], [])],
  [(.iload_n 2, (179, 1, 97), [], []),
   (.bipush 8, (180, 2, 98), [], []),
   (.iload_n 3, (182, 1, 99), [], []),
   (.imul, (183, 1, 100), [0], []),
   (.iadd, (184, 1, 101), [0], []),
   (.bipush 32, (185, 2, 102), [], []),
   (.iload 4, (187, 2, 103), [], []),
   (.imul, (189, 1, 104), [0], []),
   (.iadd, (190, 1, 105), [0], []),
   (.invokevirtual 107, (191, 3, 106), [151, 1, 0, 10, 0, 1137, 1139, 35, 1140, 79], []),
   (.return_, (194, 1, 107), [], [])]]
def rw_M_every : List (List xq_Row) := [
  [(.aload_n 0, (0, 1, 1), [], []),
   (.invokevirtual 104, (1, 3, 2), [152, 0, 0, 10, 0, 1133, 1135, 34, 1136, 79], []),
   (.aload_n 0, (4, 1, 3), [], []),
   (.getfield 77, (5, 3, 4), [1, 10, 8, 994], [8]),
   (.ifCond .ne 35, (8, 3, 5), [21], []),
   (.aload_n 0, (11, 1, 6), [], []),
   (.invokevirtual 81, (12, 3, 7), [146, 0, 0, 10, 0, 1096, 1098, 26, 1099, 79], []),
   (.bipush 38, (15, 2, 8), [], []),
   (.if_icmp .ne 26, (17, 3, 9), [21], []),
   (.aload_n 0, (20, 1, 10), [], []),
   (.dup, (21, 1, 11), [], []),
   (.getfield 71, (22, 3, 12), [0, 10, 6, 992], [6]),
   (.iconst 1, (25, 1, 13), [], []),
   (.iadd, (26, 1, 14), [0], []),
   (.putfield 71, (27, 3, 15), [0, 10, 6, 992, 0], [6]),
   (.aload_n 0, (30, 1, 16), [], [])],
  [(.invokevirtual 104, (31, 3, 17), [152, 0, 0, 10, 0, 1133, 1135, 34, 1136, 79], []),
   (.aload_n 0, (34, 1, 18), [], []),
   (.bipush (-2), (35, 2, 19), [], []),
   (.invokevirtual 107, (37, 3, 20), [151, 1, 0, 10, 0, 1137, 1139, 35, 1140, 79], []),
   (.goto (-36), (40, 3, 21), [2], []),
   (.return_, (43, 1, 22), [], [])]]
def rw_M_some : List (List xq_Row) := [
  [(.aload_n 0, (0, 1, 1), [], []),
   (.invokevirtual 124, (1, 3, 2), [153, 0, 0, 10, 0, 1129, 1131, 33, 1132, 79], []),
   (.aload_n 0, (4, 1, 3), [], []),
   (.getfield 77, (5, 3, 4), [1, 10, 8, 994], [8]),
   (.ifCond .ne 35, (8, 3, 5), [21], []),
   (.aload_n 0, (11, 1, 6), [], []),
   (.invokevirtual 81, (12, 3, 7), [146, 0, 0, 10, 0, 1096, 1098, 26, 1099, 79], []),
   (.bipush 124, (15, 2, 8), [], []),
   (.if_icmp .ne 26, (17, 3, 9), [21], []),
   (.aload_n 0, (20, 1, 10), [], []),
   (.dup, (21, 1, 11), [], []),
   (.getfield 71, (22, 3, 12), [0, 10, 6, 992], [6]),
   (.iconst 1, (25, 1, 13), [], []),
   (.iadd, (26, 1, 14), [0], []),
   (.putfield 71, (27, 3, 15), [0, 10, 6, 992, 0], [6]),
   (.aload_n 0, (30, 1, 16), [], [])],
  [(.invokevirtual 124, (31, 3, 17), [153, 0, 0, 10, 0, 1129, 1131, 33, 1132, 79], []),
   (.aload_n 0, (34, 1, 18), [], []),
   (.bipush (-3), (35, 2, 19), [], []),
   (.invokevirtual 107, (37, 3, 20), [151, 1, 0, 10, 0, 1137, 1139, 35, 1140, 79], []),
   (.goto (-36), (40, 3, 21), [2], []),
   (.return_, (43, 1, 22), [], [])]]
def rw_M_much : List (List xq_Row) := [
  [(.aload_n 0, (0, 1, 1), [], []),
   (.aload_n 2, (1, 1, 2), [], []),
   (.invokevirtual 127, (2, 3, 3), [148, 1, 0, 10, 0, 1105, 1107, 28, 1108, 79], []),
   (.aload_n 0, (5, 1, 4), [], []),
   (.invokevirtual 121, (6, 3, 5), [149, 0, 0, 10, 0, 1115, 1117, 30, 1118, 79], []),
   (.istore_n 3, (9, 1, 6), [], []),
   (.aload_n 0, (10, 1, 7), [], []),
   (.bipush 32, (11, 2, 8), [], []),
   (.invokevirtual 94, (13, 3, 9), [147, 1, 0, 10, 0, 1111, 1113, 29, 1114, 79], []),
   (.aload_n 0, (16, 1, 10), [], []),
   (.invokevirtual 110, (17, 3, 11), [154, 0, 0, 10, 0, 1125, 1127, 32, 1128, 79], []),
   (.aload_n 0, (20, 1, 12), [], []),
   (.iload_n 1, (21, 1, 13), [], []),
   (.iload_n 3, (22, 1, 14), [], []),
   (.isub, (23, 1, 15), [0], []),
   (.invokevirtual 107, (24, 3, 16), [151, 1, 0, 10, 0, 1137, 1139, 35, 1140, 79], [])],
  [(.return_, (27, 1, 17), [], [])]]
def rw_M_tellsHere : List (List xq_Row) := [
  [(.aload_n 0, (0, 1, 1), [], []),
   (.aload_n 2, (1, 1, 2), [], []),
   (.invokevirtual 127, (2, 3, 3), [148, 1, 0, 10, 0, 1105, 1107, 28, 1108, 79], []),
   (.aload_n 0, (5, 1, 4), [], []),
   (.invokevirtual 121, (6, 3, 5), [149, 0, 0, 10, 0, 1115, 1117, 30, 1118, 79], []),
   (.istore_n 3, (9, 1, 6), [], []),
   (.aload_n 0, (10, 1, 7), [], []),
   (.getfield 77, (11, 3, 8), [1, 10, 8, 994], [8]),
   (.ifCond .ne 15, (14, 3, 9), [17], []),
   (.aload_n 0, (17, 1, 10), [], []),
   (.getfield 9, (18, 3, 11), [2, 10, 1, 987], [1]),
   (.iload_n 1, (21, 1, 12), [], []),
   (.aload_n 0, (22, 1, 13), [], []),
   (.getfield 98, (23, 3, 14), [0, 10, 5, 991], [5]),
   (.iadd, (26, 1, 15), [0], []),
   (.iload_n 3, (27, 1, 16), [], [])],
  [(.iastore, (28, 1, 17), [], []),
   (.return_, (29, 1, 18), [], [])]]
def rw_M_clauseHere : List (List xq_Row) := [
  [(.aload_n 0, (0, 1, 1), [], []),
   (.invokevirtual 81, (1, 3, 2), [146, 0, 0, 10, 0, 1096, 1098, 26, 1099, 79], []),
   (.lookupswitch 91 #[(100, 68), (102, 79), (108, 44), (115, 56)], (4, 44, 3), [23, 13, 18, 3, 8], [100, 102, 108, 115]),
   (.aload_n 0, (48, 1, 4), [], []),
   (.sipush 234, (49, 3, 5), [], []),
   (.ldc 131, (52, 2, 6), [1, 4, 6], []),
   (.invokevirtual 133, (54, 3, 7), [156, 2, 0, 10, 0, 1101, 1103, 27, 1104, 79], []),
   (.goto 43, (57, 3, 8), [26], []),
   (.aload_n 0, (60, 1, 9), [], []),
   (.sipush 239, (61, 3, 10), [], []),
   (.ldc 137, (64, 2, 11), [1, 5, 7], []),
   (.invokevirtual 133, (66, 3, 12), [156, 2, 0, 10, 0, 1101, 1103, 27, 1104, 79], []),
   (.goto 31, (69, 3, 13), [26], []),
   (.aload_n 0, (72, 1, 14), [], []),
   (.bipush (-10), (73, 2, 15), [], []),
   (.ldc 139, (75, 2, 16), [1, 6, 8], [])],
  [(.invokevirtual 141, (77, 3, 17), [155, 2, 0, 10, 0, 1121, 1123, 31, 1124, 79], []),
   (.goto 20, (80, 3, 18), [26], []),
   (.aload_n 0, (83, 1, 19), [], []),
   (.sipush (-200), (84, 3, 20), [], []),
   (.ldc 144, (87, 2, 21), [1, 7, 11], []),
   (.invokevirtual 141, (89, 3, 22), [155, 2, 0, 10, 0, 1121, 1123, 31, 1124, 79], []),
   (.goto 8, (92, 3, 23), [26], []),
   (.aload_n 0, (95, 1, 24), [], []),
   (.iconst 1, (96, 1, 25), [], []),
   (.putfield 77, (97, 3, 26), [1, 10, 8, 994, 0], [8]),
   (.return_, (100, 1, 27), [], [])]]
def rw_M_telephone : List (List xq_Row) := [
  [(.aload_n 0, (0, 1, 1), [], []),
   (.getfield 9, (1, 3, 2), [2, 10, 1, 987], [1]),
   (.bipush 12, (4, 2, 3), [], []),
   (.iaload, (6, 1, 4), [], []),
   (.iconst 5, (7, 1, 5), [], []),
   (.if_icmp .ne 6, (8, 3, 6), [8], []),
   (.bipush (-4), (11, 2, 7), [], []),
   (.ireturn, (13, 1, 8), [0], []),
   (.aload_n 0, (14, 1, 9), [], []),
   (.aload_n 0, (15, 1, 10), [], []),
   (.getfield 9, (16, 3, 11), [2, 10, 1, 987], [1]),
   (.bipush 12, (19, 2, 12), [], []),
   (.iaload, (21, 1, 13), [], []),
   (.putfield 98, (22, 3, 14), [0, 10, 5, 991, 0], [5]),
   (.aload_n 0, (25, 1, 15), [], []),
   (.aload_n 0, (26, 1, 16), [], [])],
  [(.getfield 9, (27, 3, 17), [2, 10, 1, 987], [1]),
   (.bipush 15, (30, 2, 18), [], []),
   (.iaload, (32, 1, 19), [], []),
   (.putfield 74, (33, 3, 20), [0, 10, 7, 993, 0], [7]),
   (.aload_n 0, (36, 1, 21), [], []),
   (.getfield 9, (37, 3, 22), [2, 10, 1, 987], [1]),
   (.bipush 15, (40, 2, 23), [], []),
   (.iconst 0, (42, 1, 24), [], []),
   (.iastore, (43, 1, 25), [], []),
   (.aload_n 0, (44, 1, 26), [], []),
   (.getfield 9, (45, 3, 27), [2, 10, 1, 987], [1]),
   (.sipush 234, (48, 3, 28), [], []),
   (.aload_n 0, (51, 1, 29), [], []),
   (.getfield 98, (52, 3, 30), [0, 10, 5, 991], [5]),
   (.iadd, (55, 1, 31), [0], []),
   (.bipush 12, (56, 2, 32), [], [])],
  [(.iastore, (58, 1, 33), [], []),
   (.aload_n 0, (59, 1, 34), [], []),
   (.getfield 9, (60, 3, 35), [2, 10, 1, 987], [1]),
   (.sipush 239, (63, 3, 36), [], []),
   (.aload_n 0, (66, 1, 37), [], []),
   (.getfield 98, (67, 3, 38), [0, 10, 5, 991], [5]),
   (.iadd, (70, 1, 39), [0], []),
   (.bipush 10, (71, 2, 40), [], []),
   (.iastore, (73, 1, 41), [], []),
   (.aload_n 0, (74, 1, 42), [], []),
   (.getfield 9, (75, 3, 43), [2, 10, 1, 987], [1]),
   (.sipush 244, (78, 3, 44), [], []),
   (.aload_n 0, (81, 1, 45), [], []),
   (.getfield 98, (82, 3, 46), [0, 10, 5, 991], [5]),
   (.iadd, (85, 1, 47), [0], []),
   (.iconst 0, (86, 1, 48), [], [])],
  [(.iastore, (87, 1, 49), [], []),
   (.aload_n 0, (88, 1, 50), [], []),
   (.iconst 0, (89, 1, 51), [], []),
   (.putfield 71, (90, 3, 52), [0, 10, 6, 992, 0], [6]),
   (.aload_n 0, (93, 1, 53), [], []),
   (.iconst 0, (94, 1, 54), [], []),
   (.putfield 77, (95, 3, 55), [1, 10, 8, 994, 0], [8]),
   (.aload_n 0, (98, 1, 56), [], []),
   (.iconst 0, (99, 1, 57), [], []),
   (.putfield 101, (100, 3, 58), [0, 10, 9, 995, 0], [9]),
   (.iconst 1, (103, 1, 59), [], []),
   (.istore_n 1, (104, 1, 60), [], []),
   (.aload_n 0, (105, 1, 61), [], []),
   (.invokevirtual 146, (106, 3, 62), [157, 0, 0, 10, 0, 1092, 1094, 25, 1095, 79], []),
   (.aload_n 0, (109, 1, 63), [], []),
   (.getfield 77, (110, 3, 64), [1, 10, 8, 994], [8])],
  [(.ifCond .ne 38, (113, 3, 65), [82], []),
   (.iload_n 1, (116, 1, 66), [], []),
   (.bipush 10, (117, 2, 67), [], []),
   (.if_icmp .ge 32, (119, 3, 68), [82], []),
   (.aload_n 0, (122, 1, 69), [], []),
   (.invokevirtual 81, (123, 3, 70), [146, 0, 0, 10, 0, 1096, 1098, 26, 1099, 79], []),
   (.bipush 59, (126, 2, 71), [], []),
   (.if_icmp .ne 23, (128, 3, 72), [82], []),
   (.aload_n 0, (131, 1, 73), [], []),
   (.dup, (132, 1, 74), [], []),
   (.getfield 71, (133, 3, 75), [0, 10, 6, 992], [6]),
   (.iconst 1, (136, 1, 76), [], []),
   (.iadd, (137, 1, 77), [0], []),
   (.putfield 71, (138, 3, 78), [0, 10, 6, 992, 0], [6]),
   (.aload_n 0, (141, 1, 79), [], []),
   (.invokevirtual 146, (142, 3, 80), [157, 0, 0, 10, 0, 1092, 1094, 25, 1095, 79], [])],
  [(.iinc 1 1, (145, 3, 81), [], []),
   (.goto (-39), (148, 3, 82), [62], []),
   (.aload_n 0, (151, 1, 83), [], []),
   (.getfield 77, (152, 3, 84), [1, 10, 8, 994], [8]),
   (.ifCond .ne 14, (155, 3, 85), [90], []),
   (.aload_n 0, (158, 1, 86), [], []),
   (.getfield 71, (159, 3, 87), [0, 10, 6, 992], [6]),
   (.aload_n 0, (162, 1, 88), [], []),
   (.getfield 74, (163, 3, 89), [0, 10, 7, 993], [7]),
   (.if_icmp .eq 11, (166, 3, 90), [95], []),
   (.bipush (-10), (169, 2, 91), [], []),
   (.aload_n 0, (171, 1, 92), [], []),
   (.getfield 71, (172, 3, 93), [0, 10, 6, 992], [6]),
   (.isub, (175, 1, 94), [0], []),
   (.ireturn, (176, 1, 95), [0], []),
   (.aload_n 0, (177, 1, 96), [], [])],
  [(.getfield 9, (178, 3, 97), [2, 10, 1, 987], [1]),
   (.bipush 12, (181, 2, 98), [], []),
   (.dup2, (183, 1, 99), [], []),
   (.iaload, (184, 1, 100), [], []),
   (.iconst 1, (185, 1, 101), [], []),
   (.iadd, (186, 1, 102), [0], []),
   (.iastore, (187, 1, 103), [], []),
   (.aload_n 0, (188, 1, 104), [], []),
   (.getfield 9, (189, 3, 105), [2, 10, 1, 987], [1]),
   (.bipush 17, (192, 2, 106), [], []),
   (.aload_n 0, (194, 1, 107), [], []),
   (.getfield 98, (195, 3, 108), [0, 10, 5, 991], [5]),
   (.iastore, (198, 1, 109), [], []),
   (.aload_n 0, (199, 1, 110), [], []),
   (.getfield 98, (200, 3, 111), [0, 10, 5, 991], [5]),
   (.ireturn, (203, 1, 112), [0], [])]]
def rw_M_tellsOf : List (List xq_Row) := [
  [(.aload_n 0, (0, 1, 1), [], []),
   (.getfield 9, (1, 3, 2), [2, 10, 1, 987], [1]),
   (.bipush 17, (4, 2, 3), [], []),
   (.iaload, (6, 1, 4), [], []),
   (.iconst (-1), (7, 1, 5), [], []),
   (.if_icmp .ne 7, (8, 3, 6), [8], []),
   (.iload_n 2, (11, 1, 7), [], []),
   (.goto 17, (12, 3, 8), [17], []),
   (.aload_n 0, (15, 1, 9), [], []),
   (.getfield 9, (16, 3, 10), [2, 10, 1, 987], [1]),
   (.iload_n 1, (19, 1, 11), [], []),
   (.aload_n 0, (20, 1, 12), [], []),
   (.getfield 9, (21, 3, 13), [2, 10, 1, 987], [1]),
   (.bipush 17, (24, 2, 14), [], []),
   (.iaload, (26, 1, 15), [], []),
   (.iadd, (27, 1, 16), [0], [])],
  [(.iaload, (28, 1, 17), [], []),
   (.ireturn, (29, 1, 18), [0], [])]]
def rw_M_looks : List (List xq_Row) := [
  [(.aload_n 0, (0, 1, 1), [], []),
   (.getfield 21, (1, 3, 2), [2, 10, 10, 996], [10]),
   (.iconst 0, (4, 1, 3), [], []),
   (.iload_n 2, (5, 1, 4), [], []),
   (.iastore, (6, 1, 5), [], []),
   (.aload_n 0, (7, 1, 6), [], []),
   (.getfield 21, (8, 3, 7), [2, 10, 10, 996], [10]),
   (.iconst 1, (11, 1, 8), [], []),
   (.aload_n 0, (12, 1, 9), [], []),
   (.getfield 9, (13, 3, 10), [2, 10, 1, 987], [1]),
   (.bipush 18, (16, 2, 11), [], []),
   (.iload_n 3, (18, 1, 12), [], []),
   (.iadd, (19, 1, 13), [0], []),
   (.iaload, (20, 1, 14), [], []),
   (.invokestatic 67, (21, 3, 15), [141, 1, 0, 0, 1, 1204, 1205, 0, 1206, 79], []),
   (.iastore, (24, 1, 16), [], [])],
  [(.aload_n 0, (25, 1, 17), [], []),
   (.getfield 21, (26, 3, 18), [2, 10, 10, 996], [10]),
   (.iconst 2, (29, 1, 19), [], []),
   (.aload_n 0, (30, 1, 20), [], []),
   (.getfield 9, (31, 3, 21), [2, 10, 1, 987], [1]),
   (.iconst 2, (34, 1, 22), [], []),
   (.iload_n 3, (35, 1, 23), [], []),
   (.iadd, (36, 1, 24), [0], []),
   (.iaload, (37, 1, 25), [], []),
   (.bipush 10, (38, 2, 26), [], []),
   (.idiv, (40, 1, 27), [], []),
   (.iastore, (41, 1, 28), [], []),
   (.aload_n 0, (42, 1, 29), [], []),
   (.getfield 21, (43, 3, 30), [2, 10, 10, 996], [10]),
   (.iconst 3, (46, 1, 31), [], []),
   (.aload_n 0, (47, 1, 32), [], [])],
  [(.getfield 9, (48, 3, 33), [2, 10, 1, 987], [1]),
   (.bipush 34, (51, 2, 34), [], []),
   (.iload_n 1, (53, 1, 35), [], []),
   (.iadd, (54, 1, 36), [0], []),
   (.iaload, (55, 1, 37), [], []),
   (.iastore, (56, 1, 38), [], []),
   (.aload_n 0, (57, 1, 39), [], []),
   (.getfield 21, (58, 3, 40), [2, 10, 10, 996], [10]),
   (.iconst 4, (61, 1, 41), [], []),
   (.iload_n 3, (62, 1, 42), [], []),
   (.iastore, (63, 1, 43), [], []),
   (.aload_n 0, (64, 1, 44), [], []),
   (.getfield 21, (65, 3, 45), [2, 10, 10, 996], [10]),
   (.iconst 5, (68, 1, 46), [], []),
   (.aload_n 0, (69, 1, 47), [], []),
   (.getfield 9, (70, 3, 48), [2, 10, 1, 987], [1])],
  [(.iconst 1, (73, 1, 49), [], []),
   (.iaload, (74, 1, 50), [], []),
   (.bipush 10, (75, 2, 51), [], []),
   (.irem, (77, 1, 52), [], []),
   (.iastore, (78, 1, 53), [], []),
   (.iconst 0, (79, 1, 54), [], []),
   (.istore 4, (80, 2, 55), [], []),
   (.aload_n 0, (82, 1, 56), [], []),
   (.sipush 244, (83, 3, 57), [], []),
   (.iconst 0, (86, 1, 58), [], []),
   (.invokevirtual 149, (87, 3, 59), [159, 2, 0, 10, 0, 1215, 1217, 44, 1218, 79], []),
   (.istore 5, (90, 2, 60), [], []),
   (.sipush 249, (92, 3, 61), [], []),
   (.sipush 140, (95, 3, 62), [], []),
   (.aload_n 0, (98, 1, 63), [], []),
   (.getfield 9, (99, 3, 64), [2, 10, 1, 987], [1])],
  [(.bipush 17, (102, 2, 65), [], []),
   (.iaload, (104, 1, 66), [], []),
   (.imul, (105, 1, 67), [0], []),
   (.iadd, (106, 1, 68), [0], []),
   (.istore 6, (107, 2, 69), [], []),
   (.iconst 0, (109, 1, 70), [], []),
   (.istore 7, (110, 2, 71), [], []),
   (.iload 6, (112, 2, 72), [], []),
   (.istore 8, (114, 2, 73), [], []),
   (.iload 8, (116, 2, 74), [], []),
   (.iload 6, (118, 2, 75), [], []),
   (.iload 5, (120, 2, 76), [], []),
   (.iadd, (122, 1, 77), [0], []),
   (.if_icmp .ge 304, (123, 3, 78), [233], []),
   (.aload_n 0, (126, 1, 79), [], []),
   (.getfield 9, (127, 3, 80), [2, 10, 1, 987], [1])],
  [(.iload 8, (130, 2, 81), [], []),
   (.iaload, (132, 1, 82), [], []),
   (.istore 9, (133, 2, 83), [], []),
   (.iload 9, (135, 2, 84), [], []),
   (.ifCond .lt 97, (137, 3, 85), [133], []),
   (.aload_n 0, (140, 1, 86), [], []),
   (.getfield 21, (141, 3, 87), [2, 10, 10, 996], [10]),
   (.iload 9, (144, 2, 88), [], []),
   (.bipush 8, (146, 2, 89), [], []),
   (.irem, (148, 1, 90), [], []),
   (.iaload, (149, 1, 91), [], []),
   (.istore 10, (150, 2, 92), [], []),
   (.iload 9, (152, 2, 93), [], []),
   (.bipush 8, (154, 2, 94), [], []),
   (.idiv, (156, 1, 95), [], []),
   (.iconst 4, (157, 1, 96), [], [])],
  [(.irem, (158, 1, 97), [], []),
   (.istore 11, (159, 2, 98), [], []),
   (.iload 9, (161, 2, 99), [], []),
   (.bipush 32, (163, 2, 100), [], []),
   (.idiv, (165, 1, 101), [], []),
   (.istore 12, (166, 2, 102), [], []),
   (.aload_n 0, (168, 1, 103), [], []),
   (.getfield 24, (169, 3, 104), [2, 10, 11, 997], [11]),
   (.iload 7, (172, 2, 105), [], []),
   (.iload 11, (174, 2, 106), [], []),
   (.ifCond .ne 18, (176, 3, 107), [114], []),
   (.iload 10, (179, 2, 108), [], []),
   (.iload 12, (181, 2, 109), [], []),
   (.if_icmp .ge 7, (183, 3, 110), [112], []),
   (.iconst 1, (186, 1, 111), [], []),
   (.goto 40, (187, 3, 112), [130], [])],
  [(.iconst 0, (190, 1, 113), [], []),
   (.goto 36, (191, 3, 114), [130], []),
   (.iload 11, (194, 2, 115), [], []),
   (.iconst 1, (196, 1, 116), [], []),
   (.if_icmp .ne 18, (197, 3, 117), [124], []),
   (.iload 10, (200, 2, 118), [], []),
   (.iload 12, (202, 2, 119), [], []),
   (.if_icmp .ne 7, (204, 3, 120), [122], []),
   (.iconst 1, (207, 1, 121), [], []),
   (.goto 19, (208, 3, 122), [130], []),
   (.iconst 0, (211, 1, 123), [], []),
   (.goto 15, (212, 3, 124), [130], []),
   (.iload 10, (215, 2, 125), [], []),
   (.iload 12, (217, 2, 126), [], []),
   (.if_icmp .le 7, (219, 3, 127), [129], []),
   (.iconst 1, (222, 1, 128), [], [])],
  [(.goto 4, (223, 3, 129), [130], []),
   (.iconst 0, (226, 1, 130), [], []),
   (.bastore, (227, 1, 131), [], []),
   (.iinc 7 1, (228, 3, 132), [], []),
   (.goto 190, (231, 3, 133), [231], []),
   (.iload 9, (234, 2, 134), [], []),
   (.iconst (-1), (236, 1, 135), [], []),
   (.if_icmp .ne 32, (237, 3, 136), [153], []),
   (.aload_n 0, (240, 1, 137), [], []),
   (.getfield 24, (241, 3, 138), [2, 10, 11, 997], [11]),
   (.iload 7, (244, 2, 139), [], []),
   (.iconst 1, (246, 1, 140), [], []),
   (.isub, (247, 1, 141), [0], []),
   (.aload_n 0, (248, 1, 142), [], []),
   (.getfield 24, (249, 3, 143), [2, 10, 11, 997], [11]),
   (.iload 7, (252, 2, 144), [], [])],
  [(.iconst 1, (254, 1, 145), [], []),
   (.isub, (255, 1, 146), [0], []),
   (.baload, (256, 1, 147), [], []),
   (.ifCond .ne 7, (257, 3, 148), [150], []),
   (.iconst 1, (260, 1, 149), [], []),
   (.goto 4, (261, 3, 150), [151], []),
   (.iconst 0, (264, 1, 151), [], []),
   (.bastore, (265, 1, 152), [], []),
   (.goto 155, (266, 3, 153), [231], []),
   (.iload 9, (269, 2, 154), [], []),
   (.bipush (-10), (271, 2, 155), [], []),
   (.if_icmp .le 82, (273, 3, 156), [198], []),
   (.iinc 7 (-1), (276, 3, 157), [], []),
   (.aload_n 0, (279, 1, 158), [], []),
   (.getfield 24, (280, 3, 159), [2, 10, 11, 997], [11]),
   (.iload 7, (283, 2, 160), [], [])],
  [(.iconst 1, (285, 1, 161), [], []),
   (.isub, (286, 1, 162), [0], []),
   (.iload 9, (287, 2, 163), [], []),
   (.bipush (-2), (289, 2, 164), [], []),
   (.if_icmp .ne 33, (291, 3, 165), [181], []),
   (.aload_n 0, (294, 1, 166), [], []),
   (.getfield 24, (295, 3, 167), [2, 10, 11, 997], [11]),
   (.iload 7, (298, 2, 168), [], []),
   (.iconst 1, (300, 1, 169), [], []),
   (.isub, (301, 1, 170), [0], []),
   (.baload, (302, 1, 171), [], []),
   (.ifCond .eq 17, (303, 3, 172), [179], []),
   (.aload_n 0, (306, 1, 173), [], []),
   (.getfield 24, (307, 3, 174), [2, 10, 11, 997], [11]),
   (.iload 7, (310, 2, 175), [], []),
   (.baload, (312, 1, 176), [], [])],
  [(.ifCond .eq 7, (313, 3, 177), [179], []),
   (.iconst 1, (316, 1, 178), [], []),
   (.goto 34, (317, 3, 179), [196], []),
   (.iconst 0, (320, 1, 180), [], []),
   (.goto 30, (321, 3, 181), [196], []),
   (.aload_n 0, (324, 1, 182), [], []),
   (.getfield 24, (325, 3, 183), [2, 10, 11, 997], [11]),
   (.iload 7, (328, 2, 184), [], []),
   (.iconst 1, (330, 1, 185), [], []),
   (.isub, (331, 1, 186), [0], []),
   (.baload, (332, 1, 187), [], []),
   (.ifCond .ne 13, (333, 3, 188), [193], []),
   (.aload_n 0, (336, 1, 189), [], []),
   (.getfield 24, (337, 3, 190), [2, 10, 11, 997], [11]),
   (.iload 7, (340, 2, 191), [], []),
   (.baload, (342, 1, 192), [], [])],
  [(.ifCond .eq 7, (343, 3, 193), [195], []),
   (.iconst 1, (346, 1, 194), [], []),
   (.goto 4, (347, 3, 195), [196], []),
   (.iconst 0, (350, 1, 196), [], []),
   (.bastore, (351, 1, 197), [], []),
   (.goto 69, (352, 3, 198), [231], []),
   (.iconst 0, (355, 1, 199), [], []),
   (.istore 7, (356, 2, 200), [], []),
   (.aload_n 0, (358, 1, 201), [], []),
   (.getfield 24, (359, 3, 202), [2, 10, 11, 997], [11]),
   (.iconst 0, (362, 1, 203), [], []),
   (.baload, (363, 1, 204), [], []),
   (.istore 10, (364, 2, 205), [], []),
   (.iload 4, (366, 2, 206), [], []),
   (.iload 10, (368, 2, 207), [], []),
   (.ifCond .eq 19, (370, 3, 208), [215], [])],
  [(.iload 9, (373, 2, 209), [], []),
   (.sipush (-200), (375, 3, 210), [], []),
   (.if_icmp .le 11, (378, 3, 211), [215], []),
   (.bipush (-10), (381, 2, 212), [], []),
   (.iload 9, (383, 2, 213), [], []),
   (.isub, (385, 1, 214), [0], []),
   (.goto 4, (386, 3, 215), [216], []),
   (.iconst 0, (389, 1, 216), [], []),
   (.iadd, (390, 1, 217), [0], []),
   (.istore 4, (391, 2, 218), [], []),
   (.iload 4, (393, 2, 219), [], []),
   (.iload 10, (395, 2, 220), [], []),
   (.ifCond .eq 20, (397, 3, 221), [228], []),
   (.iload 9, (400, 2, 222), [], []),
   (.sipush (-200), (402, 3, 223), [], []),
   (.if_icmp .gt 12, (405, 3, 224), [228], [])],
  [(.sipush (-200), (408, 3, 225), [], []),
   (.iload 9, (411, 2, 226), [], []),
   (.isub, (413, 1, 227), [0], []),
   (.goto 4, (414, 3, 228), [229], []),
   (.iconst 0, (417, 1, 229), [], []),
   (.isub, (418, 1, 230), [0], []),
   (.istore 4, (419, 2, 231), [], []),
   (.iinc 8 1, (421, 3, 232), [], []),
   (.goto (-308), (424, 3, 233), [73], []),
   (.iload 4, (427, 2, 234), [], []),
   (.ireturn, (429, 1, 235), [0], [])]]
def rw_M_indexOf : List (List xq_Row) := [
  [(.iconst 0, (0, 1, 1), [], []),
   (.istore_n 2, (1, 1, 2), [], []),
   (.iload_n 2, (2, 1, 3), [], []),
   (.aload_n 0, (3, 1, 4), [], []),
   (.getfield 9, (4, 3, 5), [2, 10, 1, 987], [1]),
   (.bipush 11, (7, 2, 6), [], []),
   (.iaload, (9, 1, 7), [], []),
   (.if_icmp .ge 24, (10, 3, 8), [20], []),
   (.aload_n 0, (13, 1, 9), [], []),
   (.getfield 9, (14, 3, 10), [2, 10, 1, 987], [1]),
   (.bipush 18, (17, 2, 11), [], []),
   (.iload_n 2, (19, 1, 12), [], []),
   (.iadd, (20, 1, 13), [0], []),
   (.iaload, (21, 1, 14), [], []),
   (.iload_n 1, (22, 1, 15), [], []),
   (.if_icmp .ne 5, (23, 3, 16), [18], [])],
  [(.iload_n 2, (26, 1, 17), [], []),
   (.ireturn, (27, 1, 18), [0], []),
   (.iinc 2 1, (28, 3, 19), [], []),
   (.goto (-29), (31, 3, 20), [2], []),
   (.iconst (-1), (34, 1, 21), [], []),
   (.ireturn, (35, 1, 22), [0], [])]]
def rw_M_word : List (List xq_Row) := [
  [(.iload_n 1, (0, 1, 1), [], []),
   (.invokestatic 153, (1, 3, 2), [140, 1, 0, 0, 1, 1152, 1153, 0, 1154, 79], []),
   (.ifCond .eq 13, (4, 3, 3), [8], []),
   (.iload_n 2, (7, 1, 4), [], []),
   (.iconst 0, (8, 1, 5), [], []),
   (.bipush 99, (9, 2, 6), [], []),
   (.invokestatic 62, (11, 3, 7), [137, 3, 0, 0, 1, 1085, 1086, 0, 1087, 79], []),
   (.ifCond .ne 6, (14, 3, 8), [10], []),
   (.bipush (-2), (17, 2, 9), [], []),
   (.ireturn, (19, 1, 10), [0], []),
   (.aload_n 0, (20, 1, 11), [], []),
   (.iload_n 1, (21, 1, 12), [], []),
   (.invokevirtual 157, (22, 3, 13), [161, 1, 0, 10, 0, 1156, 1158, 37, 1159, 79], []),
   (.iconst (-1), (25, 1, 14), [], []),
   (.if_icmp .eq 6, (26, 3, 15), [17], []),
   (.bipush (-3), (29, 2, 16), [], [])],
  [(.ireturn, (31, 1, 17), [0], []),
   (.aload_n 0, (32, 1, 18), [], []),
   (.getfield 9, (33, 3, 19), [2, 10, 1, 987], [1]),
   (.bipush 11, (36, 2, 20), [], []),
   (.iaload, (38, 1, 21), [], []),
   (.bipush 8, (39, 2, 22), [], []),
   (.if_icmp .ne 6, (41, 3, 23), [25], []),
   (.bipush (-4), (44, 2, 24), [], []),
   (.ireturn, (46, 1, 25), [0], []),
   (.aload_n 0, (47, 1, 26), [], []),
   (.getfield 9, (48, 3, 27), [2, 10, 1, 987], [1]),
   (.bipush 11, (51, 2, 28), [], []),
   (.iaload, (53, 1, 29), [], []),
   (.istore_n 3, (54, 1, 30), [], []),
   (.aload_n 0, (55, 1, 31), [], []),
   (.getfield 9, (56, 3, 32), [2, 10, 1, 987], [1])],
  [(.bipush 18, (59, 2, 33), [], []),
   (.iload_n 3, (61, 1, 34), [], []),
   (.iadd, (62, 1, 35), [0], []),
   (.iload_n 1, (63, 1, 36), [], []),
   (.iastore, (64, 1, 37), [], []),
   (.aload_n 0, (65, 1, 38), [], []),
   (.getfield 9, (66, 3, 39), [2, 10, 1, 987], [1]),
   (.iconst 2, (69, 1, 40), [], []),
   (.iload_n 3, (70, 1, 41), [], []),
   (.iadd, (71, 1, 42), [0], []),
   (.iload_n 2, (72, 1, 43), [], []),
   (.iastore, (73, 1, 44), [], []),
   (.aload_n 0, (74, 1, 45), [], []),
   (.getfield 9, (75, 3, 46), [2, 10, 1, 987], [1]),
   (.bipush 26, (78, 2, 47), [], []),
   (.iload_n 3, (80, 1, 48), [], [])],
  [(.iadd, (81, 1, 49), [0], []),
   (.iconst 0, (82, 1, 50), [], []),
   (.iastore, (83, 1, 51), [], []),
   (.iconst 0, (84, 1, 52), [], []),
   (.istore 4, (85, 2, 53), [], []),
   (.iload 4, (87, 2, 54), [], []),
   (.iload_n 3, (89, 1, 55), [], []),
   (.if_icmp .ge 27, (90, 3, 56), [72], []),
   (.aload_n 0, (93, 1, 57), [], []),
   (.getfield 9, (94, 3, 58), [2, 10, 1, 987], [1]),
   (.bipush 26, (97, 2, 59), [], []),
   (.iload 4, (99, 2, 60), [], []),
   (.iadd, (101, 1, 61), [0], []),
   (.dup2, (102, 1, 62), [], []),
   (.iaload, (103, 1, 63), [], []),
   (.iconst 1, (104, 1, 64), [], [])],
  [(.iload_n 3, (105, 1, 65), [], []),
   (.ishl, (106, 1, 66), [], []),
   (.iconst (-1), (107, 1, 67), [], []),
   (.ixor, (108, 1, 68), [], []),
   (.iand, (109, 1, 69), [], []),
   (.iastore, (110, 1, 70), [], []),
   (.iinc 4 1, (111, 3, 71), [], []),
   (.goto (-27), (114, 3, 72), [53], []),
   (.aload_n 0, (117, 1, 73), [], []),
   (.getfield 9, (118, 3, 74), [2, 10, 1, 987], [1]),
   (.bipush 11, (121, 2, 75), [], []),
   (.dup2, (123, 1, 76), [], []),
   (.iaload, (124, 1, 77), [], []),
   (.iconst 1, (125, 1, 78), [], []),
   (.iadd, (126, 1, 79), [0], []),
   (.iastore, (127, 1, 80), [], [])],
  [(.iload_n 3, (128, 1, 81), [], []),
   (.ireturn, (129, 1, 82), [0], [])]]
def rw_M_listed : List (List xq_Row) := [
  [(.aload_n 0, (0, 1, 1), [], []),
   (.iload_n 1, (1, 1, 2), [], []),
   (.invokevirtual 160, (2, 3, 3), [139, 1, 0, 10, 0, 1164, 1166, 38, 1167, 79], []),
   (.ifCond .ne 5, (5, 3, 4), [6], []),
   (.iconst (-1), (8, 1, 5), [], []),
   (.ireturn, (9, 1, 6), [0], []),
   (.iload_n 2, (10, 1, 7), [], []),
   (.ifCond .ne 15, (11, 3, 8), [15], []),
   (.aload_n 0, (14, 1, 9), [], []),
   (.getfield 9, (15, 3, 10), [2, 10, 1, 987], [1]),
   (.bipush 18, (18, 2, 11), [], []),
   (.iload_n 1, (20, 1, 12), [], []),
   (.iadd, (21, 1, 13), [0], []),
   (.iaload, (22, 1, 14), [], []),
   (.goto 37, (23, 3, 15), [36], []),
   (.iload_n 2, (26, 1, 16), [], [])],
  [(.iconst 1, (27, 1, 17), [], []),
   (.if_icmp .ne 14, (28, 3, 18), [25], []),
   (.aload_n 0, (31, 1, 19), [], []),
   (.getfield 9, (32, 3, 20), [2, 10, 1, 987], [1]),
   (.iconst 2, (35, 1, 21), [], []),
   (.iload_n 1, (36, 1, 22), [], []),
   (.iadd, (37, 1, 23), [0], []),
   (.iaload, (38, 1, 24), [], []),
   (.goto 21, (39, 3, 25), [36], []),
   (.iload_n 2, (42, 1, 26), [], []),
   (.iconst 2, (43, 1, 27), [], []),
   (.if_icmp .ne 15, (44, 3, 28), [35], []),
   (.aload_n 0, (47, 1, 29), [], []),
   (.getfield 9, (48, 3, 30), [2, 10, 1, 987], [1]),
   (.bipush 26, (51, 2, 31), [], []),
   (.iload_n 1, (53, 1, 32), [], [])],
  [(.iadd, (54, 1, 33), [0], []),
   (.iaload, (55, 1, 34), [], []),
   (.goto 4, (56, 3, 35), [36], []),
   (.iconst (-1), (59, 1, 36), [], []),
   (.ireturn, (60, 1, 37), [0], [])]]
def rw_M_weigh : List (List xq_Row) := [
  [(.aload_n 0, (0, 1, 1), [], []),
   (.iload_n 1, (1, 1, 2), [], []),
   (.invokevirtual 160, (2, 3, 3), [139, 1, 0, 10, 0, 1164, 1166, 38, 1167, 79], []),
   (.ifCond .ne 5, (5, 3, 4), [6], []),
   (.iconst (-1), (8, 1, 5), [], []),
   (.ireturn, (9, 1, 6), [0], []),
   (.iload_n 2, (10, 1, 7), [], []),
   (.iconst 0, (11, 1, 8), [], []),
   (.bipush 99, (12, 2, 9), [], []),
   (.invokestatic 62, (14, 3, 10), [137, 3, 0, 0, 1, 1085, 1086, 0, 1087, 79], []),
   (.ifCond .ne 6, (17, 3, 11), [13], []),
   (.bipush (-2), (20, 2, 12), [], []),
   (.ireturn, (22, 1, 13), [0], []),
   (.aload_n 0, (23, 1, 14), [], []),
   (.getfield 9, (24, 3, 15), [2, 10, 1, 987], [1]),
   (.iconst 2, (27, 1, 16), [], [])],
  [(.iload_n 1, (28, 1, 17), [], []),
   (.iadd, (29, 1, 18), [0], []),
   (.iaload, (30, 1, 19), [], []),
   (.istore_n 3, (31, 1, 20), [], []),
   (.aload_n 0, (32, 1, 21), [], []),
   (.getfield 9, (33, 3, 22), [2, 10, 1, 987], [1]),
   (.iconst 2, (36, 1, 23), [], []),
   (.iload_n 1, (37, 1, 24), [], []),
   (.iadd, (38, 1, 25), [0], []),
   (.iload_n 2, (39, 1, 26), [], []),
   (.iastore, (40, 1, 27), [], []),
   (.iload_n 3, (41, 1, 28), [], []),
   (.ireturn, (42, 1, 29), [0], [])]]
def rw_M_behind : List (List xq_Row) := [
  [(.aload_n 0, (0, 1, 1), [], []),
   (.iload_n 1, (1, 1, 2), [], []),
   (.invokevirtual 160, (2, 3, 3), [139, 1, 0, 10, 0, 1164, 1166, 38, 1167, 79], []),
   (.ifCond .eq 11, (5, 3, 4), [8], []),
   (.aload_n 0, (8, 1, 5), [], []),
   (.iload_n 2, (9, 1, 6), [], []),
   (.invokevirtual 160, (10, 3, 7), [139, 1, 0, 10, 0, 1164, 1166, 38, 1167, 79], []),
   (.ifCond .ne 5, (13, 3, 8), [10], []),
   (.iconst (-1), (16, 1, 9), [], []),
   (.ireturn, (17, 1, 10), [0], []),
   (.aload_n 0, (18, 1, 11), [], []),
   (.getfield 9, (19, 3, 12), [2, 10, 1, 987], [1]),
   (.bipush 26, (22, 2, 13), [], []),
   (.iload_n 1, (24, 1, 14), [], []),
   (.iadd, (25, 1, 15), [0], []),
   (.iaload, (26, 1, 16), [], [])],
  [(.iload_n 2, (27, 1, 17), [], []),
   (.ishr, (28, 1, 18), [], []),
   (.iconst 1, (29, 1, 19), [], []),
   (.iand, (30, 1, 20), [], []),
   (.istore 4, (31, 2, 21), [], []),
   (.aload_n 0, (33, 1, 22), [], []),
   (.getfield 9, (34, 3, 23), [2, 10, 1, 987], [1]),
   (.bipush 26, (37, 2, 24), [], []),
   (.iload_n 1, (39, 1, 25), [], []),
   (.iadd, (40, 1, 26), [0], []),
   (.iload_n 3, (41, 1, 27), [], []),
   (.ifCond .eq 19, (42, 3, 28), [39], []),
   (.aload_n 0, (45, 1, 29), [], []),
   (.getfield 9, (46, 3, 30), [2, 10, 1, 987], [1]),
   (.bipush 26, (49, 2, 31), [], []),
   (.iload_n 1, (51, 1, 32), [], [])],
  [(.iadd, (52, 1, 33), [0], []),
   (.iaload, (53, 1, 34), [], []),
   (.iconst 1, (54, 1, 35), [], []),
   (.iload_n 2, (55, 1, 36), [], []),
   (.ishl, (56, 1, 37), [], []),
   (.ior, (57, 1, 38), [], []),
   (.goto 18, (58, 3, 39), [51], []),
   (.aload_n 0, (61, 1, 40), [], []),
   (.getfield 9, (62, 3, 41), [2, 10, 1, 987], [1]),
   (.bipush 26, (65, 2, 42), [], []),
   (.iload_n 1, (67, 1, 43), [], []),
   (.iadd, (68, 1, 44), [0], []),
   (.iaload, (69, 1, 45), [], []),
   (.iconst 1, (70, 1, 46), [], []),
   (.iload_n 2, (71, 1, 47), [], []),
   (.ishl, (72, 1, 48), [], [])],
  [(.iconst (-1), (73, 1, 49), [], []),
   (.ixor, (74, 1, 50), [], []),
   (.iand, (75, 1, 51), [], []),
   (.iastore, (76, 1, 52), [], []),
   (.iload 4, (77, 2, 53), [], []),
   (.ireturn, (79, 1, 54), [0], [])]]
def rw_M_mender : List (List xq_Row) := [
  [(.iload_n 1, (0, 1, 1), [], []),
   (.iconst 0, (1, 1, 2), [], []),
   (.bipush 6, (2, 2, 3), [], []),
   (.invokestatic 62, (4, 3, 4), [137, 3, 0, 0, 1, 1085, 1086, 0, 1087, 79], []),
   (.ifCond .ne 5, (7, 3, 5), [7], []),
   (.iconst (-1), (10, 1, 6), [], []),
   (.ireturn, (11, 1, 7), [0], []),
   (.iload_n 2, (12, 1, 8), [], []),
   (.iconst 0, (13, 1, 9), [], []),
   (.bipush 9, (14, 2, 10), [], []),
   (.invokestatic 62, (16, 3, 11), [137, 3, 0, 0, 1, 1085, 1086, 0, 1087, 79], []),
   (.ifCond .ne 6, (19, 3, 12), [14], []),
   (.bipush (-2), (22, 2, 13), [], []),
   (.ireturn, (24, 1, 14), [0], []),
   (.aload_n 0, (25, 1, 15), [], []),
   (.getfield 9, (26, 3, 16), [2, 10, 1, 987], [1])],
  [(.bipush 10, (29, 2, 17), [], []),
   (.iaload, (31, 1, 18), [], []),
   (.iconst 5, (32, 1, 19), [], []),
   (.if_icmp .ne 6, (33, 3, 20), [22], []),
   (.bipush (-4), (36, 2, 21), [], []),
   (.ireturn, (38, 1, 22), [0], []),
   (.aload_n 0, (39, 1, 23), [], []),
   (.getfield 9, (40, 3, 24), [2, 10, 1, 987], [1]),
   (.bipush 10, (43, 2, 25), [], []),
   (.iaload, (45, 1, 26), [], []),
   (.istore_n 3, (46, 1, 27), [], []),
   (.aload_n 0, (47, 1, 28), [], []),
   (.getfield 9, (48, 3, 29), [2, 10, 1, 987], [1]),
   (.bipush 34, (51, 2, 30), [], []),
   (.iload_n 3, (53, 1, 31), [], []),
   (.iadd, (54, 1, 32), [0], [])],
  [(.iload_n 1, (55, 1, 33), [], []),
   (.iastore, (56, 1, 34), [], []),
   (.aload_n 0, (57, 1, 35), [], []),
   (.getfield 9, (58, 3, 36), [2, 10, 1, 987], [1]),
   (.bipush 39, (61, 2, 37), [], []),
   (.iload_n 3, (63, 1, 38), [], []),
   (.iadd, (64, 1, 39), [0], []),
   (.iload_n 2, (65, 1, 40), [], []),
   (.iastore, (66, 1, 41), [], []),
   (.iconst 0, (67, 1, 42), [], []),
   (.istore 4, (68, 2, 43), [], []),
   (.iload 4, (70, 2, 44), [], []),
   (.iconst 4, (72, 1, 45), [], []),
   (.if_icmp .ge 24, (73, 3, 46), [59], []),
   (.aload_n 0, (76, 1, 47), [], []),
   (.getfield 9, (77, 3, 48), [2, 10, 1, 987], [1])],
  [(.bipush 44, (80, 2, 49), [], []),
   (.iconst 4, (82, 1, 50), [], []),
   (.iload_n 3, (83, 1, 51), [], []),
   (.imul, (84, 1, 52), [0], []),
   (.iadd, (85, 1, 53), [0], []),
   (.iload 4, (86, 2, 54), [], []),
   (.iadd, (88, 1, 55), [0], []),
   (.iconst 0, (89, 1, 56), [], []),
   (.iastore, (90, 1, 57), [], []),
   (.iinc 4 1, (91, 3, 58), [], []),
   (.goto (-24), (94, 3, 59), [43], []),
   (.aload_n 0, (97, 1, 60), [], []),
   (.getfield 9, (98, 3, 61), [2, 10, 1, 987], [1]),
   (.bipush 10, (101, 2, 62), [], []),
   (.dup2, (103, 1, 63), [], []),
   (.iaload, (104, 1, 64), [], [])],
  [(.iconst 1, (105, 1, 65), [], []),
   (.iadd, (106, 1, 66), [0], []),
   (.iastore, (107, 1, 67), [], []),
   (.iload_n 3, (108, 1, 68), [], []),
   (.ireturn, (109, 1, 69), [0], [])]]
def rw_M_of : List (List xq_Row) := [
  [(.aload_n 0, (0, 1, 1), [], []),
   (.iload_n 1, (1, 1, 2), [], []),
   (.invokevirtual 163, (2, 3, 3), [138, 1, 0, 10, 0, 1184, 1186, 39, 1187, 79], []),
   (.ifCond .ne 5, (5, 3, 4), [6], []),
   (.iconst (-1), (8, 1, 5), [], []),
   (.ireturn, (9, 1, 6), [0], []),
   (.iload_n 2, (10, 1, 7), [], []),
   (.ifCond .ne 15, (11, 3, 8), [15], []),
   (.aload_n 0, (14, 1, 9), [], []),
   (.getfield 9, (15, 3, 10), [2, 10, 1, 987], [1]),
   (.bipush 34, (18, 2, 11), [], []),
   (.iload_n 1, (20, 1, 12), [], []),
   (.iadd, (21, 1, 13), [0], []),
   (.iaload, (22, 1, 14), [], []),
   (.goto 21, (23, 3, 15), [26], []),
   (.iload_n 2, (26, 1, 16), [], [])],
  [(.iconst 1, (27, 1, 17), [], []),
   (.if_icmp .ne 15, (28, 3, 18), [25], []),
   (.aload_n 0, (31, 1, 19), [], []),
   (.getfield 9, (32, 3, 20), [2, 10, 1, 987], [1]),
   (.bipush 39, (35, 2, 21), [], []),
   (.iload_n 1, (37, 1, 22), [], []),
   (.iadd, (38, 1, 23), [0], []),
   (.iaload, (39, 1, 24), [], []),
   (.goto 4, (40, 3, 25), [26], []),
   (.iconst (-1), (43, 1, 26), [], []),
   (.ireturn, (44, 1, 27), [0], [])]]
def rw_M_row : List (List xq_Row) := [
  [(.aload_n 0, (0, 1, 1), [], []),
   (.iload_n 1, (1, 1, 2), [], []),
   (.invokevirtual 163, (2, 3, 3), [138, 1, 0, 10, 0, 1184, 1186, 39, 1187, 79], []),
   (.ifCond .eq 12, (5, 3, 4), [9], []),
   (.iload_n 2, (8, 1, 5), [], []),
   (.iconst 0, (9, 1, 6), [], []),
   (.iconst 3, (10, 1, 7), [], []),
   (.invokestatic 62, (11, 3, 8), [137, 3, 0, 0, 1, 1085, 1086, 0, 1087, 79], []),
   (.ifCond .ne 5, (14, 3, 9), [11], []),
   (.iconst (-1), (17, 1, 10), [], []),
   (.ireturn, (18, 1, 11), [0], []),
   (.iload_n 3, (19, 1, 12), [], []),
   (.iconst 0, (20, 1, 13), [], []),
   (.bipush 9, (21, 2, 14), [], []),
   (.invokestatic 62, (23, 3, 15), [137, 3, 0, 0, 1, 1085, 1086, 0, 1087, 79], []),
   (.ifCond .ne 6, (26, 3, 16), [18], [])],
  [(.bipush (-2), (29, 2, 17), [], []),
   (.ireturn, (31, 1, 18), [0], []),
   (.aload_n 0, (32, 1, 19), [], []),
   (.getfield 9, (33, 3, 20), [2, 10, 1, 987], [1]),
   (.bipush 34, (36, 2, 21), [], []),
   (.iload_n 1, (38, 1, 22), [], []),
   (.iadd, (39, 1, 23), [0], []),
   (.iaload, (40, 1, 24), [], []),
   (.bipush 6, (41, 2, 25), [], []),
   (.if_icmp .eq 6, (43, 3, 26), [28], []),
   (.bipush (-3), (46, 2, 27), [], []),
   (.ireturn, (48, 1, 28), [0], []),
   (.aload_n 0, (49, 1, 29), [], []),
   (.getfield 9, (50, 3, 30), [2, 10, 1, 987], [1]),
   (.bipush 44, (53, 2, 31), [], []),
   (.iconst 4, (55, 1, 32), [], [])],
  [(.iload_n 1, (56, 1, 33), [], []),
   (.imul, (57, 1, 34), [0], []),
   (.iadd, (58, 1, 35), [0], []),
   (.iload_n 2, (59, 1, 36), [], []),
   (.iadd, (60, 1, 37), [0], []),
   (.iaload, (61, 1, 38), [], []),
   (.istore 4, (62, 2, 39), [], []),
   (.aload_n 0, (64, 1, 40), [], []),
   (.getfield 9, (65, 3, 41), [2, 10, 1, 987], [1]),
   (.bipush 44, (68, 2, 42), [], []),
   (.iconst 4, (70, 1, 43), [], []),
   (.iload_n 1, (71, 1, 44), [], []),
   (.imul, (72, 1, 45), [0], []),
   (.iadd, (73, 1, 46), [0], []),
   (.iload_n 2, (74, 1, 47), [], []),
   (.iadd, (75, 1, 48), [0], [])],
  [(.iload_n 3, (76, 1, 49), [], []),
   (.iastore, (77, 1, 50), [], []),
   (.iload 4, (78, 2, 51), [], []),
   (.ireturn, (80, 1, 52), [0], [])]]
def rw_M_areNear : List (List xq_Row) := [
  [(.iload_n 0, (0, 1, 1), [], []),
   (.iconst 1, (1, 1, 2), [], []),
   (.isub, (2, 1, 3), [0], []),
   (.iconst 4, (3, 1, 4), [], []),
   (.irem, (4, 1, 5), [], []),
   (.iload_n 1, (5, 1, 6), [], []),
   (.iconst 1, (6, 1, 7), [], []),
   (.isub, (7, 1, 8), [0], []),
   (.iconst 4, (8, 1, 9), [], []),
   (.irem, (9, 1, 10), [], []),
   (.isub, (10, 1, 11), [0], []),
   (.istore_n 2, (11, 1, 12), [], []),
   (.iload_n 0, (12, 1, 13), [], []),
   (.iconst 1, (13, 1, 14), [], []),
   (.isub, (14, 1, 15), [0], []),
   (.iconst 4, (15, 1, 16), [], [])],
  [(.idiv, (16, 1, 17), [], []),
   (.iload_n 1, (17, 1, 18), [], []),
   (.iconst 1, (18, 1, 19), [], []),
   (.isub, (19, 1, 20), [0], []),
   (.iconst 4, (20, 1, 21), [], []),
   (.idiv, (21, 1, 22), [], []),
   (.isub, (22, 1, 23), [0], []),
   (.istore_n 3, (23, 1, 24), [], []),
   (.iload_n 2, (24, 1, 25), [], []),
   (.iload_n 2, (25, 1, 26), [], []),
   (.imul, (26, 1, 27), [0], []),
   (.iload_n 3, (27, 1, 28), [], []),
   (.iload_n 3, (28, 1, 29), [], []),
   (.imul, (29, 1, 30), [0], []),
   (.iadd, (30, 1, 31), [0], []),
   (.iconst 1, (31, 1, 32), [], [])],
  [(.if_icmp .ne 7, (32, 3, 33), [35], []),
   (.iconst 1, (35, 1, 34), [], []),
   (.goto 4, (36, 3, 35), [36], []),
   (.iconst 0, (39, 1, 36), [], []),
   (.ireturn, (40, 1, 37), [1], [])]]
def rw_M_spellsInto : List (List xq_Row) := [
  [(.iload_n 0, (0, 1, 1), [], []),
   (.invokestatic 67, (1, 3, 2), [141, 1, 0, 0, 1, 1204, 1205, 0, 1206, 79], []),
   (.istore_n 2, (4, 1, 3), [], []),
   (.iload_n 0, (5, 1, 4), [], []),
   (.istore_n 3, (6, 1, 5), [], []),
   (.iload_n 2, (7, 1, 6), [], []),
   (.istore 4, (8, 2, 7), [], []),
   (.iload 4, (10, 2, 8), [], []),
   (.ifCond .le 22, (12, 3, 9), [21], []),
   (.aload_n 1, (15, 1, 10), [], []),
   (.iload 4, (16, 2, 11), [], []),
   (.iload_n 3, (18, 1, 12), [], []),
   (.bipush 10, (19, 2, 13), [], []),
   (.irem, (21, 1, 14), [], []),
   (.iastore, (22, 1, 15), [], []),
   (.iload_n 3, (23, 1, 16), [], [])],
  [(.bipush 10, (24, 2, 17), [], []),
   (.idiv, (26, 1, 18), [], []),
   (.istore_n 3, (27, 1, 19), [], []),
   (.iinc 4 (-1), (28, 3, 20), [], []),
   (.goto (-21), (31, 3, 21), [7], []),
   (.return_, (34, 1, 22), [], [])]]
def rw_M_lesser : List (List xq_Row) := [
  [(.iload_n 0, (0, 1, 1), [], []),
   (.iload_n 1, (1, 1, 2), [], []),
   (.if_icmp .ge 7, (2, 3, 3), [5], []),
   (.iload_n 0, (5, 1, 4), [], []),
   (.goto 4, (6, 3, 5), [6], []),
   (.iload_n 1, (9, 1, 6), [], []),
   (.ireturn, (10, 1, 7), [0], [])]]
def rw_M_changes : List (List xq_Row) := [
  [(.aload_n 0, (0, 1, 1), [], []),
   (.sipush 239, (1, 3, 2), [], []),
   (.bipush 10, (4, 2, 3), [], []),
   (.invokevirtual 149, (6, 3, 4), [159, 2, 0, 10, 0, 1215, 1217, 44, 1218, 79], []),
   (.istore 4, (9, 2, 5), [], []),
   (.iload_n 1, (11, 1, 6), [], []),
   (.invokestatic 67, (12, 3, 7), [141, 1, 0, 0, 1, 1204, 1205, 0, 1206, 79], []),
   (.istore 5, (15, 2, 8), [], []),
   (.iload_n 2, (17, 1, 9), [], []),
   (.invokestatic 67, (18, 3, 10), [141, 1, 0, 0, 1, 1204, 1205, 0, 1206, 79], []),
   (.istore 6, (21, 2, 11), [], []),
   (.iload_n 1, (23, 1, 12), [], []),
   (.aload_n 0, (24, 1, 13), [], []),
   (.getfield 28, (25, 3, 14), [2, 10, 12, 998], [12]),
   (.invokestatic 166, (28, 3, 15), [170, 2, 0, 0, 1, 1243, 1244, 0, 1245, 79], []),
   (.iload_n 2, (31, 1, 16), [], [])],
  [(.aload_n 0, (32, 1, 17), [], []),
   (.getfield 31, (33, 3, 18), [2, 10, 13, 999], [13]),
   (.invokestatic 166, (36, 3, 19), [170, 2, 0, 0, 1, 1243, 1244, 0, 1245, 79], []),
   (.iconst 0, (39, 1, 20), [], []),
   (.istore 7, (40, 2, 21), [], []),
   (.iload 7, (42, 2, 22), [], []),
   (.iload 6, (44, 2, 23), [], []),
   (.if_icmp .gt 21, (46, 3, 24), [33], []),
   (.aload_n 0, (49, 1, 25), [], []),
   (.getfield 34, (50, 3, 26), [2, 10, 14, 1000], [14]),
   (.iload 7, (53, 2, 27), [], []),
   (.iload 7, (55, 2, 28), [], []),
   (.iload 4, (57, 2, 29), [], []),
   (.imul, (59, 1, 30), [0], []),
   (.iastore, (60, 1, 31), [], []),
   (.iinc 7 1, (61, 3, 32), [], [])],
  [(.goto (-22), (64, 3, 33), [21], []),
   (.iconst 1, (67, 1, 34), [], []),
   (.istore 7, (68, 2, 35), [], []),
   (.iload 7, (70, 2, 36), [], []),
   (.iload 5, (72, 2, 37), [], []),
   (.if_icmp .gt 168, (74, 3, 38), [124], []),
   (.aload_n 0, (77, 1, 39), [], []),
   (.getfield 37, (78, 3, 40), [2, 10, 15, 1001], [15]),
   (.iconst 0, (81, 1, 41), [], []),
   (.iload 7, (82, 2, 42), [], []),
   (.iload 4, (84, 2, 43), [], []),
   (.imul, (86, 1, 44), [0], []),
   (.iastore, (87, 1, 45), [], []),
   (.iconst 1, (88, 1, 46), [], []),
   (.istore 8, (89, 2, 47), [], []),
   (.iload 8, (91, 2, 48), [], [])],
  [(.iload 6, (93, 2, 49), [], []),
   (.if_icmp .gt 111, (95, 3, 50), [107], []),
   (.aload_n 0, (98, 1, 51), [], []),
   (.getfield 28, (99, 3, 52), [2, 10, 12, 998], [12]),
   (.iload 7, (102, 2, 53), [], []),
   (.iaload, (104, 1, 54), [], []),
   (.aload_n 0, (105, 1, 55), [], []),
   (.getfield 31, (106, 3, 56), [2, 10, 13, 999], [13]),
   (.iload 8, (109, 2, 57), [], []),
   (.iaload, (111, 1, 58), [], []),
   (.if_icmp .ne 7, (112, 3, 59), [61], []),
   (.iconst 0, (115, 1, 60), [], []),
   (.goto 38, (116, 3, 61), [78], []),
   (.iload_n 3, (119, 1, 62), [], []),
   (.ifCond .eq 32, (120, 3, 63), [77], []),
   (.aload_n 0, (123, 1, 64), [], [])],
  [(.getfield 28, (124, 3, 65), [2, 10, 12, 998], [12]),
   (.iload 7, (127, 2, 66), [], []),
   (.iaload, (129, 1, 67), [], []),
   (.aload_n 0, (130, 1, 68), [], []),
   (.getfield 31, (131, 3, 69), [2, 10, 13, 999], [13]),
   (.iload 8, (134, 2, 70), [], []),
   (.iaload, (136, 1, 71), [], []),
   (.invokestatic 170, (137, 3, 72), [169, 2, 0, 0, 1, 1246, 1247, 0, 1248, 79], []),
   (.ifCond .eq 12, (140, 3, 73), [77], []),
   (.iconst 4, (143, 1, 74), [], []),
   (.iload 4, (144, 2, 75), [], []),
   (.invokestatic 174, (146, 3, 76), [171, 2, 0, 0, 1, 1249, 1250, 0, 1251, 79], []),
   (.goto 5, (149, 3, 77), [78], []),
   (.iload 4, (152, 2, 78), [], []),
   (.istore 9, (154, 2, 79), [], []),
   (.aload_n 0, (156, 1, 80), [], [])],
  [(.getfield 37, (157, 3, 81), [2, 10, 15, 1001], [15]),
   (.iload 8, (160, 2, 82), [], []),
   (.aload_n 0, (162, 1, 83), [], []),
   (.getfield 34, (163, 3, 84), [2, 10, 14, 1000], [14]),
   (.iload 8, (166, 2, 85), [], []),
   (.iconst 1, (168, 1, 86), [], []),
   (.isub, (169, 1, 87), [0], []),
   (.iaload, (170, 1, 88), [], []),
   (.iload 9, (171, 2, 89), [], []),
   (.iadd, (173, 1, 90), [0], []),
   (.aload_n 0, (174, 1, 91), [], []),
   (.getfield 34, (175, 3, 92), [2, 10, 14, 1000], [14]),
   (.iload 8, (178, 2, 93), [], []),
   (.iaload, (180, 1, 94), [], []),
   (.aload_n 0, (181, 1, 95), [], []),
   (.getfield 37, (182, 3, 96), [2, 10, 15, 1001], [15])],
  [(.iload 8, (185, 2, 97), [], []),
   (.iconst 1, (187, 1, 98), [], []),
   (.isub, (188, 1, 99), [0], []),
   (.iaload, (189, 1, 100), [], []),
   (.invokestatic 174, (190, 3, 101), [171, 2, 0, 0, 1, 1249, 1250, 0, 1251, 79], []),
   (.iload 4, (193, 2, 102), [], []),
   (.iadd, (195, 1, 103), [0], []),
   (.invokestatic 174, (196, 3, 104), [171, 2, 0, 0, 1, 1249, 1250, 0, 1251, 79], []),
   (.iastore, (199, 1, 105), [], []),
   (.iinc 8 1, (200, 3, 106), [], []),
   (.goto (-112), (203, 3, 107), [47], []),
   (.iconst 0, (206, 1, 108), [], []),
   (.istore 8, (207, 2, 109), [], []),
   (.iload 8, (209, 2, 110), [], []),
   (.iload 6, (211, 2, 111), [], []),
   (.if_icmp .gt 23, (213, 3, 112), [122], [])],
  [(.aload_n 0, (216, 1, 113), [], []),
   (.getfield 34, (217, 3, 114), [2, 10, 14, 1000], [14]),
   (.iload 8, (220, 2, 115), [], []),
   (.aload_n 0, (222, 1, 116), [], []),
   (.getfield 37, (223, 3, 117), [2, 10, 15, 1001], [15]),
   (.iload 8, (226, 2, 118), [], []),
   (.iaload, (228, 1, 119), [], []),
   (.iastore, (229, 1, 120), [], []),
   (.iinc 8 1, (230, 3, 121), [], []),
   (.goto (-24), (233, 3, 122), [109], []),
   (.iinc 7 1, (236, 3, 123), [], []),
   (.goto (-169), (239, 3, 124), [35], []),
   (.aload_n 0, (242, 1, 125), [], []),
   (.getfield 34, (243, 3, 126), [2, 10, 14, 1000], [14]),
   (.iload 6, (246, 2, 127), [], []),
   (.iaload, (248, 1, 128), [], [])],
  [(.ireturn, (249, 1, 129), [0], [])]]
def rw_M_farOf : List (List xq_Row) := [
  [(.aload_n 0, (0, 1, 1), [], []),
   (.getfield 9, (1, 3, 2), [2, 10, 1, 987], [1]),
   (.bipush 34, (4, 2, 3), [], []),
   (.iload_n 1, (6, 1, 4), [], []),
   (.iadd, (7, 1, 5), [0], []),
   (.iaload, (8, 1, 6), [], []),
   (.istore 4, (9, 2, 7), [], []),
   (.iload_n 2, (11, 1, 8), [], []),
   (.invokestatic 67, (12, 3, 9), [141, 1, 0, 0, 1, 1204, 1205, 0, 1206, 79], []),
   (.iload_n 3, (15, 1, 10), [], []),
   (.invokestatic 67, (16, 3, 11), [141, 1, 0, 0, 1, 1204, 1205, 0, 1206, 79], []),
   (.if_icmp .ge 19, (19, 3, 12), [20], []),
   (.iload_n 3, (22, 1, 13), [], []),
   (.iload_n 2, (23, 1, 14), [], []),
   (.invokestatic 67, (24, 3, 15), [141, 1, 0, 0, 1, 1204, 1205, 0, 1206, 79], []),
   (.invokestatic 177, (27, 3, 16), [142, 2, 0, 0, 1, 1236, 1237, 0, 1238, 79], [])],
  [(.iload_n 2, (30, 1, 17), [], []),
   (.if_icmp .ne 7, (31, 3, 18), [20], []),
   (.iconst 1, (34, 1, 19), [], []),
   (.goto 4, (35, 3, 20), [21], []),
   (.iconst 0, (38, 1, 21), [], []),
   (.istore 5, (39, 2, 22), [], []),
   (.iload 4, (41, 2, 23), [], []),
   (.iconst 5, (43, 1, 24), [], []),
   (.if_icmp .ne 12, (44, 3, 25), [29], []),
   (.iload 5, (47, 2, 26), [], []),
   (.ifCond .eq 7, (49, 3, 27), [29], []),
   (.iconst 2, (52, 1, 28), [], []),
   (.goto 26, (53, 3, 29), [42], []),
   (.aload_n 0, (56, 1, 30), [], []),
   (.iload_n 2, (57, 1, 31), [], []),
   (.iload_n 3, (58, 1, 32), [], [])],
  [(.iload 4, (59, 2, 33), [], []),
   (.iconst 1, (61, 1, 34), [], []),
   (.if_icmp .eq 9, (62, 3, 35), [38], []),
   (.iload 4, (65, 2, 36), [], []),
   (.iconst 4, (67, 1, 37), [], []),
   (.if_icmp .ne 7, (68, 3, 38), [40], []),
   (.iconst 1, (71, 1, 39), [], []),
   (.goto 4, (72, 3, 40), [41], []),
   (.iconst 0, (75, 1, 41), [], []),
   (.invokevirtual 180, (76, 3, 42), [172, 3, 0, 10, 0, 1239, 1241, 49, 1242, 79], []),
   (.ireturn, (79, 1, 43), [0], [])]]
def rw_M_looksFor : List (List xq_Row) := [
  [(.iconst 0, (0, 1, 1), [], []),
   (.istore_n 3, (1, 1, 2), [], []),
   (.iload_n 3, (2, 1, 3), [], []),
   (.aload_n 0, (3, 1, 4), [], []),
   (.getfield 9, (4, 3, 5), [2, 10, 1, 987], [1]),
   (.bipush 11, (7, 2, 6), [], []),
   (.iaload, (9, 1, 7), [], []),
   (.if_icmp .ge 22, (10, 3, 8), [19], []),
   (.aload_n 0, (13, 1, 9), [], []),
   (.getfield 40, (14, 3, 10), [2, 10, 16, 1002], [16]),
   (.iload_n 3, (17, 1, 11), [], []),
   (.aload_n 0, (18, 1, 12), [], []),
   (.iload_n 1, (19, 1, 13), [], []),
   (.iload_n 2, (20, 1, 14), [], []),
   (.iload_n 3, (21, 1, 15), [], []),
   (.invokevirtual 184, (22, 3, 16), [160, 3, 0, 10, 0, 1211, 1213, 43, 1214, 79], [])],
  [(.iastore, (25, 1, 17), [], []),
   (.iinc 3 1, (26, 3, 18), [], []),
   (.goto (-27), (29, 3, 19), [2], []),
   (.return_, (32, 1, 20), [], [])]]
def rw_M_costOf : List (List xq_Row) := [
  [(.aload_n 0, (0, 1, 1), [], []),
   (.getfield 9, (1, 3, 2), [2, 10, 1, 987], [1]),
   (.bipush 34, (4, 2, 3), [], []),
   (.iload_n 1, (6, 1, 4), [], []),
   (.iadd, (7, 1, 5), [0], []),
   (.iaload, (8, 1, 6), [], []),
   (.istore 4, (9, 2, 7), [], []),
   (.aload_n 0, (11, 1, 8), [], []),
   (.iload_n 1, (12, 1, 9), [], []),
   (.iload_n 2, (13, 1, 10), [], []),
   (.aload_n 0, (14, 1, 11), [], []),
   (.getfield 9, (15, 3, 12), [2, 10, 1, 987], [1]),
   (.bipush 18, (18, 2, 13), [], []),
   (.iload_n 3, (20, 1, 14), [], []),
   (.iadd, (21, 1, 15), [0], []),
   (.iaload, (22, 1, 16), [], [])],
  [(.invokevirtual 188, (23, 3, 17), [173, 3, 0, 10, 0, 1232, 1234, 48, 1235, 79], []),
   (.aload_n 0, (26, 1, 18), [], []),
   (.getfield 40, (27, 3, 19), [2, 10, 16, 1002], [16]),
   (.iload_n 3, (30, 1, 20), [], []),
   (.iaload, (31, 1, 21), [], []),
   (.iadd, (32, 1, 22), [0], []),
   (.istore 5, (33, 2, 23), [], []),
   (.aload_n 0, (35, 1, 24), [], []),
   (.getfield 9, (36, 3, 25), [2, 10, 1, 987], [1]),
   (.iconst 0, (39, 1, 26), [], []),
   (.iaload, (40, 1, 27), [], []),
   (.ifCond .ne 7, (41, 3, 28), [30], []),
   (.iconst (-1), (44, 1, 29), [], []),
   (.goto 13, (45, 3, 30), [36], []),
   (.aload_n 0, (48, 1, 31), [], []),
   (.aload_n 0, (49, 1, 32), [], [])],
  [(.getfield 9, (50, 3, 33), [2, 10, 1, 987], [1]),
   (.iconst 0, (53, 1, 34), [], []),
   (.iaload, (54, 1, 35), [], []),
   (.invokevirtual 157, (55, 3, 36), [161, 1, 0, 10, 0, 1156, 1158, 37, 1159, 79], []),
   (.istore 6, (58, 2, 37), [], []),
   (.iload 5, (60, 2, 38), [], []),
   (.iload 4, (62, 2, 39), [], []),
   (.iconst 2, (64, 1, 40), [], []),
   (.if_icmp .eq 9, (65, 3, 41), [44], []),
   (.iload 4, (68, 2, 42), [], []),
   (.iconst 5, (70, 1, 43), [], []),
   (.if_icmp .ne 31, (71, 3, 44), [61], []),
   (.iload 6, (74, 2, 45), [], []),
   (.iconst (-1), (76, 1, 46), [], []),
   (.if_icmp .eq 25, (77, 3, 47), [61], []),
   (.aload_n 0, (80, 1, 48), [], [])],
  [(.getfield 9, (81, 3, 49), [2, 10, 1, 987], [1]),
   (.bipush 26, (84, 2, 50), [], []),
   (.iload 6, (86, 2, 51), [], []),
   (.iadd, (88, 1, 52), [0], []),
   (.iaload, (89, 1, 53), [], []),
   (.iload_n 3, (90, 1, 54), [], []),
   (.ishr, (91, 1, 55), [], []),
   (.iconst 1, (92, 1, 56), [], []),
   (.iand, (93, 1, 57), [], []),
   (.iconst 1, (94, 1, 58), [], []),
   (.if_icmp .ne 7, (95, 3, 59), [61], []),
   (.iconst 5, (98, 1, 60), [], []),
   (.goto 4, (99, 3, 61), [62], []),
   (.iconst 0, (102, 1, 62), [], []),
   (.isub, (103, 1, 63), [0], []),
   (.istore 5, (104, 2, 64), [], [])],
  [(.iload 5, (106, 2, 65), [], []),
   (.iload 4, (108, 2, 66), [], []),
   (.bipush 6, (110, 2, 67), [], []),
   (.if_icmp .ne 26, (112, 3, 68), [84], []),
   (.aload_n 0, (115, 1, 69), [], []),
   (.getfield 9, (116, 3, 70), [2, 10, 1, 987], [1]),
   (.bipush 44, (119, 2, 71), [], []),
   (.iconst 4, (121, 1, 72), [], []),
   (.iload_n 1, (122, 1, 73), [], []),
   (.imul, (123, 1, 74), [0], []),
   (.iadd, (124, 1, 75), [0], []),
   (.aload_n 0, (125, 1, 76), [], []),
   (.getfield 9, (126, 3, 77), [2, 10, 1, 987], [1]),
   (.iconst 1, (129, 1, 78), [], []),
   (.iaload, (130, 1, 79), [], []),
   (.iconst 4, (131, 1, 80), [], [])],
  [(.irem, (132, 1, 81), [], []),
   (.iadd, (133, 1, 82), [0], []),
   (.iaload, (134, 1, 83), [], []),
   (.goto 4, (135, 3, 84), [85], []),
   (.iconst 0, (138, 1, 85), [], []),
   (.iadd, (139, 1, 86), [0], []),
   (.istore 5, (140, 2, 87), [], []),
   (.iload 5, (142, 2, 88), [], []),
   (.ifCond .ge 7, (144, 3, 89), [91], []),
   (.iconst 0, (147, 1, 90), [], []),
   (.goto 5, (148, 3, 91), [92], []),
   (.iload 5, (151, 2, 92), [], []),
   (.ireturn, (153, 1, 93), [0], [])]]
def rw_M_isLeft : List (List xq_Row) := [
  [(.iconst 0, (0, 1, 1), [], []),
   (.istore_n 2, (1, 1, 2), [], []),
   (.iconst 0, (2, 1, 3), [], []),
   (.istore_n 3, (3, 1, 4), [], []),
   (.iload_n 3, (4, 1, 5), [], []),
   (.aload_n 0, (5, 1, 6), [], []),
   (.getfield 9, (6, 3, 7), [2, 10, 1, 987], [1]),
   (.bipush 16, (9, 2, 8), [], []),
   (.iaload, (11, 1, 9), [], []),
   (.if_icmp .ge 32, (12, 3, 10), [26], []),
   (.iload_n 2, (15, 1, 11), [], []),
   (.ifCond .ne 16, (16, 3, 12), [20], []),
   (.aload_n 0, (19, 1, 13), [], []),
   (.getfield 9, (20, 3, 14), [2, 10, 1, 987], [1]),
   (.bipush 104, (23, 2, 15), [], []),
   (.iload_n 3, (25, 1, 16), [], [])],
  [(.iadd, (26, 1, 17), [0], []),
   (.iaload, (27, 1, 18), [], []),
   (.iload_n 1, (28, 1, 19), [], []),
   (.if_icmp .ne 7, (29, 3, 20), [22], []),
   (.iconst 1, (32, 1, 21), [], []),
   (.goto 4, (33, 3, 22), [23], []),
   (.iconst 0, (36, 1, 23), [], []),
   (.istore_n 2, (37, 1, 24), [], []),
   (.iinc 3 1, (38, 3, 25), [], []),
   (.goto (-37), (41, 3, 26), [4], []),
   (.iload_n 2, (44, 1, 27), [], []),
   (.ireturn, (45, 1, 28), [1], [])]]
def rw_M_madeOf : List (List xq_Row) := [
  [(.aload_n 0, (0, 1, 1), [], []),
   (.getfield 9, (1, 3, 2), [2, 10, 1, 987], [1]),
   (.bipush 34, (4, 2, 3), [], []),
   (.iload_n 1, (6, 1, 4), [], []),
   (.iadd, (7, 1, 5), [0], []),
   (.iaload, (8, 1, 6), [], []),
   (.istore_n 3, (9, 1, 7), [], []),
   (.iload_n 3, (10, 1, 8), [], []),
   (.iconst 3, (11, 1, 9), [], []),
   (.if_icmp .eq 9, (12, 3, 10), [13], []),
   (.iload_n 3, (15, 1, 11), [], []),
   (.bipush 6, (16, 2, 12), [], []),
   (.if_icmp .ne 13, (18, 3, 13), [19], []),
   (.aload_n 0, (21, 1, 14), [], []),
   (.iload_n 2, (22, 1, 15), [], []),
   (.invokevirtual 191, (23, 3, 16), [176, 1, 0, 10, 0, 1223, 1225, 46, 1226, 79], [])],
  [(.ifCond .eq 5, (26, 3, 17), [19], []),
   (.iload_n 2, (29, 1, 18), [], []),
   (.ireturn, (30, 1, 19), [0], []),
   (.iconst (-1), (31, 1, 20), [], []),
   (.istore 4, (32, 2, 21), [], []),
   (.ldc 194, (34, 2, 22), [0, 1227], [1000000]),
   (.istore 5, (36, 2, 23), [], []),
   (.iconst 0, (38, 1, 24), [], []),
   (.istore 6, (39, 2, 25), [], []),
   (.iload 6, (41, 2, 26), [], []),
   (.aload_n 0, (43, 1, 27), [], []),
   (.getfield 9, (44, 3, 28), [2, 10, 1, 987], [1]),
   (.bipush 11, (47, 2, 29), [], []),
   (.iaload, (49, 1, 30), [], []),
   (.if_icmp .ge 64, (50, 3, 31), [62], []),
   (.bipush 10, (53, 2, 32), [], [])],
  [(.aload_n 0, (55, 1, 33), [], []),
   (.iload_n 1, (56, 1, 34), [], []),
   (.iload_n 2, (57, 1, 35), [], []),
   (.iload 6, (58, 2, 36), [], []),
   (.invokevirtual 195, (60, 3, 37), [175, 3, 0, 10, 0, 1228, 1230, 47, 1231, 79], []),
   (.imul, (63, 1, 38), [0], []),
   (.aload_n 0, (64, 1, 39), [], []),
   (.getfield 9, (65, 3, 40), [2, 10, 1, 987], [1]),
   (.iconst 2, (68, 1, 41), [], []),
   (.iload 6, (69, 2, 42), [], []),
   (.iadd, (71, 1, 43), [0], []),
   (.iaload, (72, 1, 44), [], []),
   (.isub, (73, 1, 45), [0], []),
   (.istore 7, (74, 2, 46), [], []),
   (.iload 7, (76, 2, 47), [], []),
   (.iload 5, (78, 2, 48), [], [])],
  [(.if_icmp .ge 8, (80, 3, 49), [51], []),
   (.iload 6, (83, 2, 50), [], []),
   (.goto 5, (85, 3, 51), [52], []),
   (.iload 4, (88, 2, 52), [], []),
   (.istore 4, (90, 2, 53), [], []),
   (.iload 7, (92, 2, 54), [], []),
   (.iload 5, (94, 2, 55), [], []),
   (.if_icmp .ge 8, (96, 3, 56), [58], []),
   (.iload 7, (99, 2, 57), [], []),
   (.goto 5, (101, 3, 58), [59], []),
   (.iload 5, (104, 2, 59), [], []),
   (.istore 5, (106, 2, 60), [], []),
   (.iinc 6 1, (108, 3, 61), [], []),
   (.goto (-70), (111, 3, 62), [25], []),
   (.iload 4, (114, 2, 63), [], []),
   (.iconst (-1), (116, 1, 64), [], [])],
  [(.if_icmp .eq 33, (117, 3, 65), [80], []),
   (.iload 5, (120, 2, 66), [], []),
   (.bipush 10, (122, 2, 67), [], []),
   (.aload_n 0, (124, 1, 68), [], []),
   (.sipush 234, (125, 3, 69), [], []),
   (.bipush 12, (128, 2, 70), [], []),
   (.invokevirtual 149, (130, 3, 71), [159, 2, 0, 10, 0, 1215, 1217, 44, 1218, 79], []),
   (.imul, (133, 1, 72), [0], []),
   (.if_icmp .ge 16, (134, 3, 73), [80], []),
   (.aload_n 0, (137, 1, 74), [], []),
   (.getfield 9, (138, 3, 75), [2, 10, 1, 987], [1]),
   (.bipush 18, (141, 2, 76), [], []),
   (.iload 4, (143, 2, 77), [], []),
   (.iadd, (145, 1, 78), [0], []),
   (.iaload, (146, 1, 79), [], []),
   (.goto 4, (147, 3, 80), [81], [])],
  [(.iload_n 2, (150, 1, 81), [], []),
   (.ireturn, (151, 1, 82), [0], [])]]
def rw_M_makesOf : List (List xq_Row) := [
  [(.aload_n 0, (0, 1, 1), [], []),
   (.iload_n 1, (1, 1, 2), [], []),
   (.iload_n 2, (2, 1, 3), [], []),
   (.invokestatic 67, (3, 3, 4), [141, 1, 0, 0, 1, 1204, 1205, 0, 1206, 79], []),
   (.invokevirtual 198, (6, 3, 5), [174, 2, 0, 10, 0, 1207, 1209, 42, 1210, 79], []),
   (.aload_n 0, (9, 1, 6), [], []),
   (.iload_n 1, (10, 1, 7), [], []),
   (.iload_n 2, (11, 1, 8), [], []),
   (.invokevirtual 202, (12, 3, 9), [177, 2, 0, 10, 0, 1219, 1221, 45, 1222, 79], []),
   (.ireturn, (15, 1, 10), [0], [])]]
def rw_M_types : List (List xq_Row) := [
  [(.aload_n 0, (0, 1, 1), [], []),
   (.iload_n 1, (1, 1, 2), [], []),
   (.iload_n 2, (2, 1, 3), [], []),
   (.invokevirtual 205, (3, 3, 4), [178, 2, 0, 10, 0, 1200, 1202, 41, 1203, 79], []),
   (.istore_n 3, (6, 1, 5), [], []),
   (.aload_n 0, (7, 1, 6), [], []),
   (.iload_n 3, (8, 1, 7), [], []),
   (.invokevirtual 157, (9, 3, 8), [161, 1, 0, 10, 0, 1156, 1158, 37, 1159, 79], []),
   (.istore 4, (12, 2, 9), [], []),
   (.iload 4, (14, 2, 10), [], []),
   (.iconst (-1), (16, 1, 11), [], []),
   (.if_icmp .eq 49, (17, 3, 12), [41], []),
   (.aload_n 0, (20, 1, 13), [], []),
   (.getfield 9, (21, 3, 14), [2, 10, 1, 987], [1]),
   (.bipush 34, (24, 2, 15), [], []),
   (.iload_n 1, (26, 1, 16), [], [])],
  [(.iadd, (27, 1, 17), [0], []),
   (.iaload, (28, 1, 18), [], []),
   (.iconst 4, (29, 1, 19), [], []),
   (.if_icmp .ne 36, (30, 3, 20), [41], []),
   (.aload_n 0, (33, 1, 21), [], []),
   (.getfield 9, (34, 3, 22), [2, 10, 1, 987], [1]),
   (.iconst 2, (37, 1, 23), [], []),
   (.iload 4, (38, 2, 24), [], []),
   (.iadd, (40, 1, 25), [0], []),
   (.bipush 99, (41, 2, 26), [], []),
   (.aload_n 0, (43, 1, 27), [], []),
   (.getfield 9, (44, 3, 28), [2, 10, 1, 987], [1]),
   (.iconst 2, (47, 1, 29), [], []),
   (.iload 4, (48, 2, 30), [], []),
   (.iadd, (50, 1, 31), [0], []),
   (.iaload, (51, 1, 32), [], [])],
  [(.aload_n 0, (52, 1, 33), [], []),
   (.getfield 9, (53, 3, 34), [2, 10, 1, 987], [1]),
   (.bipush 39, (56, 2, 35), [], []),
   (.iload_n 1, (58, 1, 36), [], []),
   (.iadd, (59, 1, 37), [0], []),
   (.iaload, (60, 1, 38), [], []),
   (.iadd, (61, 1, 39), [0], []),
   (.invokestatic 174, (62, 3, 40), [171, 2, 0, 0, 1, 1249, 1250, 0, 1251, 79], []),
   (.iastore, (65, 1, 41), [], []),
   (.aload_n 0, (66, 1, 42), [], []),
   (.getfield 9, (67, 3, 43), [2, 10, 1, 987], [1]),
   (.iconst 1, (70, 1, 44), [], []),
   (.dup2, (71, 1, 45), [], []),
   (.iaload, (72, 1, 46), [], []),
   (.iconst 1, (73, 1, 47), [], []),
   (.iadd, (74, 1, 48), [0], [])],
  [(.iastore, (75, 1, 49), [], []),
   (.aload_n 0, (76, 1, 50), [], []),
   (.getfield 9, (77, 3, 51), [2, 10, 1, 987], [1]),
   (.iconst 0, (80, 1, 52), [], []),
   (.iload_n 3, (81, 1, 53), [], []),
   (.iastore, (82, 1, 54), [], []),
   (.iload_n 3, (83, 1, 55), [], []),
   (.ireturn, (84, 1, 56), [0], [])]]
def rw_M_type : List (List xq_Row) := [
  [(.aload_n 0, (0, 1, 1), [], []),
   (.iload_n 1, (1, 1, 2), [], []),
   (.invokevirtual 163, (2, 3, 3), [138, 1, 0, 10, 0, 1184, 1186, 39, 1187, 79], []),
   (.ifCond .ne 5, (5, 3, 4), [6], []),
   (.iconst (-1), (8, 1, 5), [], []),
   (.ireturn, (9, 1, 6), [0], []),
   (.iload_n 2, (10, 1, 7), [], []),
   (.invokestatic 153, (11, 3, 8), [140, 1, 0, 0, 1, 1152, 1153, 0, 1154, 79], []),
   (.ifCond .ne 6, (14, 3, 9), [11], []),
   (.bipush (-2), (17, 2, 10), [], []),
   (.ireturn, (19, 1, 11), [0], []),
   (.aload_n 0, (20, 1, 12), [], []),
   (.getfield 9, (21, 3, 13), [2, 10, 1, 987], [1]),
   (.bipush 13, (24, 2, 14), [], []),
   (.iaload, (26, 1, 15), [], []),
   (.bipush 20, (27, 2, 16), [], [])],
  [(.if_icmp .ne 6, (29, 3, 17), [19], []),
   (.bipush (-4), (32, 2, 18), [], []),
   (.ireturn, (34, 1, 19), [0], []),
   (.aload_n 0, (35, 1, 20), [], []),
   (.iload_n 1, (36, 1, 21), [], []),
   (.iload_n 2, (37, 1, 22), [], []),
   (.invokevirtual 208, (38, 3, 23), [179, 2, 0, 10, 0, 1196, 1198, 40, 1199, 79], []),
   (.istore_n 3, (41, 1, 24), [], []),
   (.aload_n 0, (42, 1, 25), [], []),
   (.getfield 9, (43, 3, 26), [2, 10, 1, 987], [1]),
   (.bipush 64, (46, 2, 27), [], []),
   (.aload_n 0, (48, 1, 28), [], []),
   (.getfield 9, (49, 3, 29), [2, 10, 1, 987], [1]),
   (.bipush 13, (52, 2, 30), [], []),
   (.iaload, (54, 1, 31), [], []),
   (.iadd, (55, 1, 32), [0], [])],
  [(.iload_n 3, (56, 1, 33), [], []),
   (.iastore, (57, 1, 34), [], []),
   (.aload_n 0, (58, 1, 35), [], []),
   (.getfield 9, (59, 3, 36), [2, 10, 1, 987], [1]),
   (.bipush 84, (62, 2, 37), [], []),
   (.aload_n 0, (64, 1, 38), [], []),
   (.getfield 9, (65, 3, 39), [2, 10, 1, 987], [1]),
   (.bipush 13, (68, 2, 40), [], []),
   (.iaload, (70, 1, 41), [], []),
   (.iadd, (71, 1, 42), [0], []),
   (.iload_n 2, (72, 1, 43), [], []),
   (.iastore, (73, 1, 44), [], []),
   (.aload_n 0, (74, 1, 45), [], []),
   (.getfield 9, (75, 3, 46), [2, 10, 1, 987], [1]),
   (.bipush 13, (78, 2, 47), [], []),
   (.dup2, (80, 1, 48), [], [])],
  [(.iaload, (81, 1, 49), [], []),
   (.iconst 1, (82, 1, 50), [], []),
   (.iadd, (83, 1, 51), [0], []),
   (.iastore, (84, 1, 52), [], []),
   (.iload_n 3, (85, 1, 53), [], []),
   (.ireturn, (86, 1, 54), [0], [])]]
def rw_M_back : List (List xq_Row) := [
  [(.aload_n 0, (0, 1, 1), [], []),
   (.getfield 9, (1, 3, 2), [2, 10, 1, 987], [1]),
   (.bipush 13, (4, 2, 3), [], []),
   (.iaload, (6, 1, 4), [], []),
   (.ifCond .ne 6, (7, 3, 5), [7], []),
   (.bipush (-3), (10, 2, 6), [], []),
   (.ireturn, (12, 1, 7), [0], []),
   (.aload_n 0, (13, 1, 8), [], []),
   (.getfield 9, (14, 3, 9), [2, 10, 1, 987], [1]),
   (.bipush 13, (17, 2, 10), [], []),
   (.iaload, (19, 1, 11), [], []),
   (.iconst 1, (20, 1, 12), [], []),
   (.isub, (21, 1, 13), [0], []),
   (.istore_n 1, (22, 1, 14), [], []),
   (.aload_n 0, (23, 1, 15), [], []),
   (.getfield 9, (24, 3, 16), [2, 10, 1, 987], [1])],
  [(.bipush 84, (27, 2, 17), [], []),
   (.iload_n 1, (29, 1, 18), [], []),
   (.iadd, (30, 1, 19), [0], []),
   (.iaload, (31, 1, 20), [], []),
   (.istore_n 2, (32, 1, 21), [], []),
   (.aload_n 0, (33, 1, 22), [], []),
   (.getfield 9, (34, 3, 23), [2, 10, 1, 987], [1]),
   (.bipush 64, (37, 2, 24), [], []),
   (.iload_n 1, (39, 1, 25), [], []),
   (.iadd, (40, 1, 26), [0], []),
   (.iload_n 2, (41, 1, 27), [], []),
   (.iastore, (42, 1, 28), [], []),
   (.aload_n 0, (43, 1, 29), [], []),
   (.getfield 9, (44, 3, 30), [2, 10, 1, 987], [1]),
   (.iconst 0, (47, 1, 31), [], []),
   (.iload_n 2, (48, 1, 32), [], [])],
  [(.iastore, (49, 1, 33), [], []),
   (.aload_n 0, (50, 1, 34), [], []),
   (.iload_n 2, (51, 1, 35), [], []),
   (.invokevirtual 191, (52, 3, 36), [176, 1, 0, 10, 0, 1223, 1225, 46, 1226, 79], []),
   (.ifCond .ne 42, (55, 3, 37), [61], []),
   (.aload_n 0, (58, 1, 38), [], []),
   (.getfield 9, (59, 3, 39), [2, 10, 1, 987], [1]),
   (.bipush 16, (62, 2, 40), [], []),
   (.iaload, (64, 1, 41), [], []),
   (.bipush 6, (65, 2, 42), [], []),
   (.if_icmp .ge 30, (67, 3, 43), [61], []),
   (.aload_n 0, (70, 1, 44), [], []),
   (.getfield 9, (71, 3, 45), [2, 10, 1, 987], [1]),
   (.bipush 104, (74, 2, 46), [], []),
   (.aload_n 0, (76, 1, 47), [], []),
   (.getfield 9, (77, 3, 48), [2, 10, 1, 987], [1])],
  [(.bipush 16, (80, 2, 49), [], []),
   (.iaload, (82, 1, 50), [], []),
   (.iadd, (83, 1, 51), [0], []),
   (.iload_n 2, (84, 1, 52), [], []),
   (.iastore, (85, 1, 53), [], []),
   (.aload_n 0, (86, 1, 54), [], []),
   (.getfield 9, (87, 3, 55), [2, 10, 1, 987], [1]),
   (.bipush 16, (90, 2, 56), [], []),
   (.dup2, (92, 1, 57), [], []),
   (.iaload, (93, 1, 58), [], []),
   (.iconst 1, (94, 1, 59), [], []),
   (.iadd, (95, 1, 60), [0], []),
   (.iastore, (96, 1, 61), [], []),
   (.iload_n 2, (97, 1, 62), [], []),
   (.ireturn, (98, 1, 63), [0], [])]]
def rw_M_send : List (List xq_Row) := [
  [(.aload_n 0, (0, 1, 1), [], []),
   (.getfield 9, (1, 3, 2), [2, 10, 1, 987], [1]),
   (.bipush 13, (4, 2, 3), [], []),
   (.iaload, (6, 1, 4), [], []),
   (.istore_n 1, (7, 1, 5), [], []),
   (.aload_n 0, (8, 1, 6), [], []),
   (.getfield 9, (9, 3, 7), [2, 10, 1, 987], [1]),
   (.bipush 13, (12, 2, 8), [], []),
   (.iconst 0, (14, 1, 9), [], []),
   (.iastore, (15, 1, 10), [], []),
   (.aload_n 0, (16, 1, 11), [], []),
   (.getfield 9, (17, 3, 12), [2, 10, 1, 987], [1]),
   (.iconst 0, (20, 1, 13), [], []),
   (.iconst 0, (21, 1, 14), [], []),
   (.iastore, (22, 1, 15), [], []),
   (.iload_n 1, (23, 1, 16), [], [])],
  [(.ireturn, (24, 1, 17), [0], [])]]
def rw_M_told : List (List xq_Row) := [
  [(.iload_n 1, (0, 1, 1), [], []),
   (.bipush 10, (1, 2, 2), [], []),
   (.isub, (3, 1, 3), [1], []),
   (.iconst 0, (4, 1, 4), [], []),
   (.aload_n 0, (5, 1, 5), [], []),
   (.getfield 9, (6, 3, 6), [2, 10, 1, 987], [1]),
   (.bipush 13, (9, 2, 7), [], []),
   (.iaload, (11, 1, 8), [], []),
   (.iconst 1, (12, 1, 9), [], []),
   (.isub, (13, 1, 10), [1], []),
   (.invokestatic 62, (14, 3, 11), [137, 3, 0, 0, 1, 1085, 1086, 0, 1087, 79], []),
   (.ifCond .eq 16, (17, 3, 12), [21], []),
   (.aload_n 0, (20, 1, 13), [], []),
   (.getfield 9, (21, 3, 14), [2, 10, 1, 987], [1]),
   (.bipush 64, (24, 2, 15), [], []),
   (.iload_n 1, (26, 1, 16), [], [])],
  [(.iadd, (27, 1, 17), [0], []),
   (.bipush 10, (28, 2, 18), [], []),
   (.isub, (30, 1, 19), [1], []),
   (.iaload, (31, 1, 20), [], []),
   (.ireturn, (32, 1, 21), [0], []),
   (.iload_n 1, (33, 1, 22), [], []),
   (.bipush 40, (34, 2, 23), [], []),
   (.isub, (36, 1, 24), [1], []),
   (.iconst 0, (37, 1, 25), [], []),
   (.aload_n 0, (38, 1, 26), [], []),
   (.getfield 9, (39, 3, 27), [2, 10, 1, 987], [1]),
   (.bipush 13, (42, 2, 28), [], []),
   (.iaload, (44, 1, 29), [], []),
   (.iconst 1, (45, 1, 30), [], []),
   (.isub, (46, 1, 31), [1], []),
   (.invokestatic 62, (47, 3, 32), [137, 3, 0, 0, 1, 1085, 1086, 0, 1087, 79], [])],
  [(.ifCond .eq 16, (50, 3, 33), [42], []),
   (.aload_n 0, (53, 1, 34), [], []),
   (.getfield 9, (54, 3, 35), [2, 10, 1, 987], [1]),
   (.bipush 84, (57, 2, 36), [], []),
   (.iload_n 1, (59, 1, 37), [], []),
   (.iadd, (60, 1, 38), [0], []),
   (.bipush 40, (61, 2, 39), [], []),
   (.isub, (63, 1, 40), [1], []),
   (.iaload, (64, 1, 41), [], []),
   (.ireturn, (65, 1, 42), [0], []),
   (.iload_n 1, (66, 1, 43), [], []),
   (.bipush 70, (67, 2, 44), [], []),
   (.isub, (69, 1, 45), [1], []),
   (.iconst 0, (70, 1, 46), [], []),
   (.aload_n 0, (71, 1, 47), [], []),
   (.getfield 9, (72, 3, 48), [2, 10, 1, 987], [1])],
  [(.bipush 16, (75, 2, 49), [], []),
   (.iaload, (77, 1, 50), [], []),
   (.iconst 1, (78, 1, 51), [], []),
   (.isub, (79, 1, 52), [1], []),
   (.invokestatic 62, (80, 3, 53), [137, 3, 0, 0, 1, 1085, 1086, 0, 1087, 79], []),
   (.ifCond .eq 16, (83, 3, 54), [63], []),
   (.aload_n 0, (86, 1, 55), [], []),
   (.getfield 9, (87, 3, 56), [2, 10, 1, 987], [1]),
   (.bipush 104, (90, 2, 57), [], []),
   (.iload_n 1, (92, 1, 58), [], []),
   (.iadd, (93, 1, 59), [0], []),
   (.bipush 70, (94, 2, 60), [], []),
   (.isub, (96, 1, 61), [1], []),
   (.iaload, (97, 1, 62), [], []),
   (.ireturn, (98, 1, 63), [0], []),
   (.iload_n 1, (99, 1, 64), [], [])],
  [(.tableswitch 67 0 3 #[32, 39, 49, 59], (100, 32, 65), [85, 65, 70, 75, 80], [0, 1, 2, 3]),
   (.aload_n 0, (132, 1, 66), [], []),
   (.getfield 9, (133, 3, 67), [2, 10, 1, 987], [1]),
   (.iconst 1, (136, 1, 68), [], []),
   (.iaload, (137, 1, 69), [], []),
   (.ireturn, (138, 1, 70), [0], []),
   (.aload_n 0, (139, 1, 71), [], []),
   (.sipush 234, (140, 3, 72), [], []),
   (.bipush 12, (143, 2, 73), [], []),
   (.invokevirtual 149, (145, 3, 74), [159, 2, 0, 10, 0, 1215, 1217, 44, 1218, 79], []),
   (.ireturn, (148, 1, 75), [0], []),
   (.aload_n 0, (149, 1, 76), [], []),
   (.sipush 239, (150, 3, 77), [], []),
   (.bipush 10, (153, 2, 78), [], []),
   (.invokevirtual 149, (155, 3, 79), [159, 2, 0, 10, 0, 1215, 1217, 44, 1218, 79], []),
   (.ireturn, (158, 1, 80), [0], [])],
  [(.aload_n 0, (159, 1, 81), [], []),
   (.getfield 9, (160, 3, 82), [2, 10, 1, 987], [1]),
   (.bipush 16, (163, 2, 83), [], []),
   (.iaload, (165, 1, 84), [], []),
   (.ireturn, (166, 1, 85), [0], []),
   (.iconst (-1), (167, 1, 86), [], []),
   (.ireturn, (168, 1, 87), [0], [])]]
def rw_M_makes : List (List xq_Row) := [
  [(.aload_n 0, (0, 1, 1), [], []),
   (.iload_n 1, (1, 1, 2), [], []),
   (.invokevirtual 163, (2, 3, 3), [138, 1, 0, 10, 0, 1184, 1186, 39, 1187, 79], []),
   (.ifCond .ne 5, (5, 3, 4), [6], []),
   (.iconst (-1), (8, 1, 5), [], []),
   (.ireturn, (9, 1, 6), [0], []),
   (.iload_n 2, (10, 1, 7), [], []),
   (.invokestatic 153, (11, 3, 8), [140, 1, 0, 0, 1, 1152, 1153, 0, 1154, 79], []),
   (.ifCond .eq 12, (14, 3, 9), [14], []),
   (.aload_n 0, (17, 1, 10), [], []),
   (.iload_n 1, (18, 1, 11), [], []),
   (.iload_n 2, (19, 1, 12), [], []),
   (.invokevirtual 205, (20, 3, 13), [178, 2, 0, 10, 0, 1200, 1202, 41, 1203, 79], []),
   (.goto 5, (23, 3, 14), [15], []),
   (.bipush (-2), (26, 2, 15), [], []),
   (.ireturn, (28, 1, 16), [0], [])]]
def rw_M_cost : List (List xq_Row) := [
  [(.aload_n 0, (0, 1, 1), [], []),
   (.iload_n 1, (1, 1, 2), [], []),
   (.invokevirtual 163, (2, 3, 3), [138, 1, 0, 10, 0, 1184, 1186, 39, 1187, 79], []),
   (.ifCond .eq 21, (5, 3, 4), [13], []),
   (.aload_n 0, (8, 1, 5), [], []),
   (.iload_n 3, (9, 1, 6), [], []),
   (.invokevirtual 160, (10, 3, 7), [139, 1, 0, 10, 0, 1164, 1166, 38, 1167, 79], []),
   (.ifCond .eq 13, (13, 3, 8), [13], []),
   (.iload 4, (16, 2, 9), [], []),
   (.iconst 0, (18, 1, 10), [], []),
   (.iconst 1, (19, 1, 11), [], []),
   (.invokestatic 62, (20, 3, 12), [137, 3, 0, 0, 1, 1085, 1086, 0, 1087, 79], []),
   (.ifCond .ne 7, (23, 3, 13), [15], []),
   (.sipush (-10001), (26, 3, 14), [], []),
   (.ireturn, (29, 1, 15), [0], []),
   (.iload_n 2, (30, 1, 16), [], [])],
  [(.invokestatic 153, (31, 3, 17), [140, 1, 0, 0, 1, 1152, 1153, 0, 1154, 79], []),
   (.ifCond .ne 7, (34, 3, 18), [20], []),
   (.sipush (-10002), (37, 3, 19), [], []),
   (.ireturn, (40, 1, 20), [0], []),
   (.aload_n 0, (41, 1, 21), [], []),
   (.iload_n 1, (42, 1, 22), [], []),
   (.iload_n 2, (43, 1, 23), [], []),
   (.invokestatic 67, (44, 3, 24), [141, 1, 0, 0, 1, 1204, 1205, 0, 1206, 79], []),
   (.invokevirtual 198, (47, 3, 25), [174, 2, 0, 10, 0, 1207, 1209, 42, 1210, 79], []),
   (.aload_n 0, (50, 1, 26), [], []),
   (.iload_n 1, (51, 1, 27), [], []),
   (.iload_n 2, (52, 1, 28), [], []),
   (.iload_n 3, (53, 1, 29), [], []),
   (.invokevirtual 195, (54, 3, 30), [175, 3, 0, 10, 0, 1228, 1230, 47, 1231, 79], []),
   (.istore 5, (57, 2, 31), [], []),
   (.iload 4, (59, 2, 32), [], [])],
  [(.ifCond .ne 8, (61, 3, 33), [35], []),
   (.iload 5, (64, 2, 34), [], []),
   (.goto 17, (66, 3, 35), [45], []),
   (.bipush 10, (69, 2, 36), [], []),
   (.iload 5, (71, 2, 37), [], []),
   (.imul, (73, 1, 38), [0], []),
   (.aload_n 0, (74, 1, 39), [], []),
   (.getfield 9, (75, 3, 40), [2, 10, 1, 987], [1]),
   (.iconst 2, (78, 1, 41), [], []),
   (.iload_n 3, (79, 1, 42), [], []),
   (.iadd, (80, 1, 43), [0], []),
   (.iaload, (81, 1, 44), [], []),
   (.isub, (82, 1, 45), [0], []),
   (.ireturn, (83, 1, 46), [0], [])]]
def rw_M_staysOf : List (List xq_Row) := [
  [(.iconst 0, (0, 1, 1), [], []),
   (.istore_n 2, (1, 1, 2), [], []),
   (.iconst 0, (2, 1, 3), [], []),
   (.istore_n 3, (3, 1, 4), [], []),
   (.iload_n 3, (4, 1, 5), [], []),
   (.aload_n 0, (5, 1, 6), [], []),
   (.getfield 9, (6, 3, 7), [2, 10, 1, 987], [1]),
   (.bipush 11, (9, 2, 8), [], []),
   (.iaload, (11, 1, 9), [], []),
   (.if_icmp .ge 45, (12, 3, 10), [36], []),
   (.iload_n 2, (15, 1, 11), [], []),
   (.aload_n 0, (16, 1, 12), [], []),
   (.iload_n 1, (17, 1, 13), [], []),
   (.aload_n 0, (18, 1, 14), [], []),
   (.getfield 9, (19, 3, 15), [2, 10, 1, 987], [1]),
   (.bipush 18, (22, 2, 16), [], [])],
  [(.iload_n 3, (24, 1, 17), [], []),
   (.iadd, (25, 1, 18), [0], []),
   (.iaload, (26, 1, 19), [], []),
   (.invokevirtual 205, (27, 3, 20), [178, 2, 0, 10, 0, 1200, 1202, 41, 1203, 79], []),
   (.aload_n 0, (30, 1, 21), [], []),
   (.getfield 9, (31, 3, 22), [2, 10, 1, 987], [1]),
   (.bipush 18, (34, 2, 23), [], []),
   (.iload_n 3, (36, 1, 24), [], []),
   (.iadd, (37, 1, 25), [0], []),
   (.iaload, (38, 1, 26), [], []),
   (.if_icmp .ne 9, (39, 3, 27), [31], []),
   (.iconst 1, (42, 1, 28), [], []),
   (.iload_n 3, (43, 1, 29), [], []),
   (.ishl, (44, 1, 30), [], []),
   (.goto 4, (45, 3, 31), [32], []),
   (.iconst 0, (48, 1, 32), [], [])],
  [(.ior, (49, 1, 33), [], []),
   (.istore_n 2, (50, 1, 34), [], []),
   (.iinc 3 1, (51, 3, 35), [], []),
   (.goto (-50), (54, 3, 36), [4], []),
   (.iload_n 2, (57, 1, 37), [], []),
   (.ireturn, (58, 1, 38), [0], [])]]
def rw_M_stays : List (List xq_Row) := [
  [(.aload_n 0, (0, 1, 1), [], []),
   (.iload_n 1, (1, 1, 2), [], []),
   (.invokevirtual 163, (2, 3, 3), [138, 1, 0, 10, 0, 1184, 1186, 39, 1187, 79], []),
   (.ifCond .eq 11, (5, 3, 4), [8], []),
   (.aload_n 0, (8, 1, 5), [], []),
   (.iload_n 1, (9, 1, 6), [], []),
   (.invokevirtual 211, (10, 3, 7), [186, 1, 0, 10, 0, 1276, 1278, 50, 1279, 79], []),
   (.goto 4, (13, 3, 8), [9], []),
   (.iconst (-1), (16, 1, 9), [], []),
   (.ireturn, (17, 1, 10), [0], [])]]
def rw_M_looksForShort : List (List xq_Row) := [
  [(.iconst 0, (0, 1, 1), [], []),
   (.istore_n 2, (1, 1, 2), [], []),
   (.iconst 1, (2, 1, 3), [], []),
   (.istore_n 3, (3, 1, 4), [], []),
   (.iload_n 3, (4, 1, 5), [], []),
   (.sipush 889, (5, 3, 6), [], []),
   (.if_icmp .ge 64, (8, 3, 7), [40], []),
   (.iload_n 3, (11, 1, 8), [], []),
   (.invokestatic 153, (12, 3, 9), [140, 1, 0, 0, 1, 1152, 1153, 0, 1154, 79], []),
   (.ifCond .eq 51, (15, 3, 10), [38], []),
   (.iload_n 3, (18, 1, 11), [], []),
   (.iconst 1, (19, 1, 12), [], []),
   (.if_icmp .eq 15, (20, 3, 13), [19], []),
   (.iload_n 3, (23, 1, 14), [], []),
   (.bipush 11, (24, 2, 15), [], []),
   (.if_icmp .eq 9, (26, 3, 16), [19], [])],
  [(.iload_n 3, (29, 1, 17), [], []),
   (.bipush 111, (30, 2, 18), [], []),
   (.if_icmp .ne 12, (32, 3, 19), [24], []),
   (.aload_n 0, (35, 1, 20), [], []),
   (.iload_n 1, (36, 1, 21), [], []),
   (.iload_n 3, (37, 1, 22), [], []),
   (.invokestatic 67, (38, 3, 23), [141, 1, 0, 0, 1, 1204, 1205, 0, 1206, 79], []),
   (.invokevirtual 198, (41, 3, 24), [174, 2, 0, 10, 0, 1207, 1209, 42, 1210, 79], []),
   (.aload_n 0, (44, 1, 25), [], []),
   (.getfield 43, (45, 3, 26), [2, 10, 17, 1003], [17]),
   (.iload_n 2, (48, 1, 27), [], []),
   (.iload_n 3, (49, 1, 28), [], []),
   (.iastore, (50, 1, 29), [], []),
   (.aload_n 0, (51, 1, 30), [], []),
   (.getfield 46, (52, 3, 31), [2, 10, 18, 1004], [18]),
   (.iload_n 2, (55, 1, 32), [], [])],
  [(.aload_n 0, (56, 1, 33), [], []),
   (.iload_n 1, (57, 1, 34), [], []),
   (.iload_n 3, (58, 1, 35), [], []),
   (.invokevirtual 202, (59, 3, 36), [177, 2, 0, 10, 0, 1219, 1221, 45, 1222, 79], []),
   (.iastore, (62, 1, 37), [], []),
   (.iinc 2 1, (63, 3, 38), [], []),
   (.iinc 3 1, (66, 3, 39), [], []),
   (.goto (-65), (69, 3, 40), [4], []),
   (.return_, (72, 1, 41), [], [])]]
def rw_M_looksForTouches : List (List xq_Row) := [
  [(.aload_n 0, (0, 1, 1), [], []),
   (.ldc 194, (1, 2, 2), [0, 1227], [1000000]),
   (.putfield 214, (3, 3, 3), [0, 10, 19, 1005, 0], [19]),
   (.aload_n 0, (6, 1, 4), [], []),
   (.iconst 0, (7, 1, 5), [], []),
   (.putfield 217, (8, 3, 6), [0, 10, 20, 1006, 0], [20]),
   (.iconst 0, (11, 1, 7), [], []),
   (.istore_n 3, (12, 1, 8), [], []),
   (.iload_n 3, (13, 1, 9), [], []),
   (.sipush 584, (14, 3, 10), [], []),
   (.if_icmp .ge 62, (17, 3, 11), [44], []),
   (.aload_n 0, (20, 1, 12), [], []),
   (.getfield 46, (21, 3, 13), [2, 10, 18, 1004], [18]),
   (.iload_n 3, (24, 1, 14), [], []),
   (.iaload, (25, 1, 15), [], []),
   (.iload_n 2, (26, 1, 16), [], [])],
  [(.if_icmp .ne 46, (27, 3, 17), [42], []),
   (.aload_n 0, (30, 1, 18), [], []),
   (.getfield 43, (31, 3, 19), [2, 10, 17, 1003], [17]),
   (.iload_n 3, (34, 1, 20), [], []),
   (.iaload, (35, 1, 21), [], []),
   (.invokestatic 67, (36, 3, 22), [141, 1, 0, 0, 1, 1204, 1205, 0, 1206, 79], []),
   (.iconst 1, (39, 1, 23), [], []),
   (.iadd, (40, 1, 24), [0], []),
   (.aload_n 0, (41, 1, 25), [], []),
   (.getfield 214, (42, 3, 26), [0, 10, 19, 1005], [19]),
   (.if_icmp .ge 28, (45, 3, 27), [42], []),
   (.aload_n 0, (48, 1, 28), [], []),
   (.aload_n 0, (49, 1, 29), [], []),
   (.getfield 43, (50, 3, 30), [2, 10, 17, 1003], [17]),
   (.iload_n 3, (53, 1, 31), [], []),
   (.iaload, (54, 1, 32), [], [])],
  [(.invokestatic 67, (55, 3, 33), [141, 1, 0, 0, 1, 1204, 1205, 0, 1206, 79], []),
   (.iconst 1, (58, 1, 34), [], []),
   (.iadd, (59, 1, 35), [0], []),
   (.putfield 214, (60, 3, 36), [0, 10, 19, 1005, 0], [19]),
   (.aload_n 0, (63, 1, 37), [], []),
   (.aload_n 0, (64, 1, 38), [], []),
   (.getfield 43, (65, 3, 39), [2, 10, 17, 1003], [17]),
   (.iload_n 3, (68, 1, 40), [], []),
   (.iaload, (69, 1, 41), [], []),
   (.putfield 217, (70, 3, 42), [0, 10, 20, 1006, 0], [20]),
   (.iinc 3 1, (73, 3, 43), [], []),
   (.goto (-63), (76, 3, 44), [8], []),
   (.iload_n 2, (79, 1, 45), [], []),
   (.invokestatic 67, (80, 3, 46), [141, 1, 0, 0, 1, 1204, 1205, 0, 1206, 79], []),
   (.istore_n 3, (83, 1, 47), [], []),
   (.iload_n 3, (84, 1, 48), [], [])],
  [(.iconst 1, (85, 1, 49), [], []),
   (.iadd, (86, 1, 50), [0], []),
   (.aload_n 0, (87, 1, 51), [], []),
   (.getfield 214, (88, 3, 52), [0, 10, 19, 1005], [19]),
   (.if_icmp .ge 25, (91, 3, 53), [67], []),
   (.aload_n 0, (94, 1, 54), [], []),
   (.iload_n 1, (95, 1, 55), [], []),
   (.iload_n 2, (96, 1, 56), [], []),
   (.invokevirtual 205, (97, 3, 57), [178, 2, 0, 10, 0, 1200, 1202, 41, 1203, 79], []),
   (.iload_n 2, (100, 1, 58), [], []),
   (.if_icmp .ne 15, (101, 3, 59), [67], []),
   (.aload_n 0, (104, 1, 60), [], []),
   (.iload_n 3, (105, 1, 61), [], []),
   (.iconst 1, (106, 1, 62), [], []),
   (.iadd, (107, 1, 63), [0], []),
   (.putfield 214, (108, 3, 64), [0, 10, 19, 1005, 0], [19])],
  [(.aload_n 0, (111, 1, 65), [], []),
   (.iload_n 2, (112, 1, 66), [], []),
   (.putfield 217, (113, 3, 67), [0, 10, 20, 1006, 0], [20]),
   (.aload_n 0, (116, 1, 68), [], []),
   (.iload_n 3, (117, 1, 69), [], []),
   (.iconst 2, (118, 1, 70), [], []),
   (.iadd, (119, 1, 71), [0], []),
   (.aload_n 0, (120, 1, 72), [], []),
   (.getfield 214, (121, 3, 73), [0, 10, 19, 1005], [19]),
   (.if_icmp .ge 7, (124, 3, 74), [76], []),
   (.iconst 1, (127, 1, 75), [], []),
   (.goto 4, (128, 3, 76), [77], []),
   (.iconst 0, (131, 1, 77), [], []),
   (.putfield 220, (132, 3, 78), [1, 10, 21, 1007, 0], [21]),
   (.aload_n 0, (135, 1, 79), [], []),
   (.aload_n 0, (136, 1, 80), [], [])],
  [(.getfield 220, (137, 3, 81), [1, 10, 21, 1007], [21]),
   (.ifCond .eq 7, (140, 3, 82), [84], []),
   (.iload_n 2, (143, 1, 83), [], []),
   (.goto 7, (144, 3, 84), [86], []),
   (.aload_n 0, (147, 1, 85), [], []),
   (.getfield 217, (148, 3, 86), [0, 10, 20, 1006], [20]),
   (.putfield 217, (151, 3, 87), [0, 10, 20, 1006, 0], [20]),
   (.aload_n 0, (154, 1, 88), [], []),
   (.aload_n 0, (155, 1, 89), [], []),
   (.getfield 220, (156, 3, 90), [1, 10, 21, 1007], [21]),
   (.ifCond .eq 9, (159, 3, 91), [95], []),
   (.iload_n 3, (162, 1, 92), [], []),
   (.iconst 2, (163, 1, 93), [], []),
   (.iadd, (164, 1, 94), [0], []),
   (.goto 7, (165, 3, 95), [97], []),
   (.aload_n 0, (168, 1, 96), [], [])],
  [(.getfield 214, (169, 3, 97), [0, 10, 19, 1005], [19]),
   (.putfield 214, (172, 3, 98), [0, 10, 19, 1005, 0], [19]),
   (.return_, (175, 1, 99), [], [])]]
def rw_M_touches : List (List xq_Row) := [
  [(.aload_n 0, (0, 1, 1), [], []),
   (.iload_n 1, (1, 1, 2), [], []),
   (.invokevirtual 163, (2, 3, 3), [138, 1, 0, 10, 0, 1184, 1186, 39, 1187, 79], []),
   (.ifCond .eq 12, (5, 3, 4), [9], []),
   (.iload_n 3, (8, 1, 5), [], []),
   (.iconst 0, (9, 1, 6), [], []),
   (.iconst 2, (10, 1, 7), [], []),
   (.invokestatic 62, (11, 3, 8), [137, 3, 0, 0, 1, 1085, 1086, 0, 1087, 79], []),
   (.ifCond .ne 5, (14, 3, 9), [11], []),
   (.iconst (-1), (17, 1, 10), [], []),
   (.ireturn, (18, 1, 11), [0], []),
   (.iload_n 2, (19, 1, 12), [], []),
   (.invokestatic 153, (20, 3, 13), [140, 1, 0, 0, 1, 1152, 1153, 0, 1154, 79], []),
   (.ifCond .ne 6, (23, 3, 14), [16], []),
   (.bipush (-2), (26, 2, 15), [], []),
   (.ireturn, (28, 1, 16), [0], [])],
  [(.aload_n 0, (29, 1, 17), [], []),
   (.iload_n 1, (30, 1, 18), [], []),
   (.invokevirtual 223, (31, 3, 19), [188, 1, 0, 10, 0, 1284, 1286, 51, 1287, 79], []),
   (.aload_n 0, (34, 1, 20), [], []),
   (.iload_n 1, (35, 1, 21), [], []),
   (.iload_n 2, (36, 1, 22), [], []),
   (.invokevirtual 226, (37, 3, 23), [189, 2, 0, 10, 0, 1288, 1290, 52, 1291, 79], []),
   (.iload_n 3, (40, 1, 24), [], []),
   (.ifCond .ne 10, (41, 3, 25), [28], []),
   (.aload_n 0, (44, 1, 26), [], []),
   (.getfield 214, (45, 3, 27), [0, 10, 19, 1005], [19]),
   (.goto 27, (48, 3, 28), [40], []),
   (.iload_n 3, (51, 1, 29), [], []),
   (.iconst 1, (52, 1, 30), [], []),
   (.if_icmp .ne 10, (53, 3, 31), [34], []),
   (.aload_n 0, (56, 1, 32), [], [])],
  [(.getfield 217, (57, 3, 33), [0, 10, 20, 1006], [20]),
   (.goto 15, (60, 3, 34), [40], []),
   (.aload_n 0, (63, 1, 35), [], []),
   (.getfield 220, (64, 3, 36), [1, 10, 21, 1007], [21]),
   (.ifCond .eq 7, (67, 3, 37), [39], []),
   (.iconst 1, (70, 1, 38), [], []),
   (.goto 4, (71, 3, 39), [40], []),
   (.iconst 0, (74, 1, 40), [], []),
   (.ireturn, (75, 1, 41), [0], [])]]
def rw_M_never : List (List xq_Row) := [
  [(.aload_n 0, (0, 1, 1), [], []),
   (.iload_n 1, (1, 1, 2), [], []),
   (.invokevirtual 163, (2, 3, 3), [138, 1, 0, 10, 0, 1184, 1186, 39, 1187, 79], []),
   (.ifCond .ne 5, (5, 3, 4), [6], []),
   (.iconst (-1), (8, 1, 5), [], []),
   (.ireturn, (9, 1, 6), [0], []),
   (.aload_n 0, (10, 1, 7), [], []),
   (.iload_n 1, (11, 1, 8), [], []),
   (.invokevirtual 211, (12, 3, 9), [186, 1, 0, 10, 0, 1276, 1278, 50, 1279, 79], []),
   (.istore_n 2, (15, 1, 10), [], []),
   (.aload_n 0, (16, 1, 11), [], []),
   (.iload_n 1, (17, 1, 12), [], []),
   (.invokevirtual 223, (18, 3, 13), [188, 1, 0, 10, 0, 1284, 1286, 51, 1287, 79], []),
   (.iconst 0, (21, 1, 14), [], []),
   (.istore_n 3, (22, 1, 15), [], []),
   (.iload_n 3, (23, 1, 16), [], [])],
  [(.sipush 584, (24, 3, 17), [], []),
   (.if_icmp .ge 38, (27, 3, 18), [38], []),
   (.aload_n 0, (30, 1, 19), [], []),
   (.aload_n 0, (31, 1, 20), [], []),
   (.getfield 46, (32, 3, 21), [2, 10, 18, 1004], [18]),
   (.iload_n 3, (35, 1, 22), [], []),
   (.iaload, (36, 1, 23), [], []),
   (.invokevirtual 157, (37, 3, 24), [161, 1, 0, 10, 0, 1156, 1158, 37, 1159, 79], []),
   (.istore 4, (40, 2, 25), [], []),
   (.iload_n 2, (42, 1, 26), [], []),
   (.iload 4, (43, 2, 27), [], []),
   (.iconst (-1), (45, 1, 28), [], []),
   (.if_icmp .ne 7, (46, 3, 29), [31], []),
   (.iconst 0, (49, 1, 30), [], []),
   (.goto 7, (50, 3, 31), [34], []),
   (.iconst 1, (53, 1, 32), [], [])],
  [(.iload 4, (54, 2, 33), [], []),
   (.ishl, (56, 1, 34), [], []),
   (.ior, (57, 1, 35), [], []),
   (.istore_n 2, (58, 1, 36), [], []),
   (.iinc 3 1, (59, 3, 37), [], []),
   (.goto (-39), (62, 3, 38), [15], []),
   (.iconst 1, (65, 1, 39), [], []),
   (.aload_n 0, (66, 1, 40), [], []),
   (.getfield 9, (67, 3, 41), [2, 10, 1, 987], [1]),
   (.bipush 11, (70, 2, 42), [], []),
   (.iaload, (72, 1, 43), [], []),
   (.ishl, (73, 1, 44), [], []),
   (.iconst 1, (74, 1, 45), [], []),
   (.isub, (75, 1, 46), [0], []),
   (.iload_n 2, (76, 1, 47), [], []),
   (.iconst (-1), (77, 1, 48), [], [])],
  [(.ixor, (78, 1, 49), [], []),
   (.iand, (79, 1, 50), [], []),
   (.ireturn, (80, 1, 51), [0], [])]]
def rw_M_round : List (List xq_Row) := [
  [(.aload_n 0, (0, 1, 1), [], []),
   (.iload_n 1, (1, 1, 2), [], []),
   (.invokevirtual 163, (2, 3, 3), [138, 1, 0, 10, 0, 1184, 1186, 39, 1187, 79], []),
   (.ifCond .eq 12, (5, 3, 4), [9], []),
   (.iload_n 3, (8, 1, 5), [], []),
   (.iconst 0, (9, 1, 6), [], []),
   (.iconst 1, (10, 1, 7), [], []),
   (.invokestatic 62, (11, 3, 8), [137, 3, 0, 0, 1, 1085, 1086, 0, 1087, 79], []),
   (.ifCond .ne 5, (14, 3, 9), [11], []),
   (.iconst (-1), (17, 1, 10), [], []),
   (.ireturn, (18, 1, 11), [0], []),
   (.iload_n 2, (19, 1, 12), [], []),
   (.invokestatic 153, (20, 3, 13), [140, 1, 0, 0, 1, 1152, 1153, 0, 1154, 79], []),
   (.ifCond .ne 6, (23, 3, 14), [16], []),
   (.bipush (-2), (26, 2, 15), [], []),
   (.ireturn, (28, 1, 16), [0], [])],
  [(.aload_n 0, (29, 1, 17), [], []),
   (.getfield 49, (30, 3, 18), [2, 10, 22, 1008], [22]),
   (.iconst 0, (33, 1, 19), [], []),
   (.iload_n 2, (34, 1, 20), [], []),
   (.iastore, (35, 1, 21), [], []),
   (.iconst 1, (36, 1, 22), [], []),
   (.istore 4, (37, 2, 23), [], []),
   (.iload 4, (39, 2, 24), [], []),
   (.bipush 12, (41, 2, 25), [], []),
   (.if_icmp .ge 78, (43, 3, 26), [65], []),
   (.aload_n 0, (46, 1, 27), [], []),
   (.getfield 49, (47, 3, 28), [2, 10, 22, 1008], [22]),
   (.iload 4, (50, 2, 29), [], []),
   (.aload_n 0, (52, 1, 30), [], []),
   (.iload_n 1, (53, 1, 31), [], []),
   (.aload_n 0, (54, 1, 32), [], [])],
  [(.getfield 49, (55, 3, 33), [2, 10, 22, 1008], [22]),
   (.iload 4, (58, 2, 34), [], []),
   (.iconst 1, (60, 1, 35), [], []),
   (.isub, (61, 1, 36), [0], []),
   (.iaload, (62, 1, 37), [], []),
   (.invokevirtual 205, (63, 3, 38), [178, 2, 0, 10, 0, 1200, 1202, 41, 1203, 79], []),
   (.iastore, (66, 1, 39), [], []),
   (.iconst 0, (67, 1, 40), [], []),
   (.istore 5, (68, 2, 41), [], []),
   (.iload 5, (70, 2, 42), [], []),
   (.iload 4, (72, 2, 43), [], []),
   (.if_icmp .ge 41, (74, 3, 44), [63], []),
   (.aload_n 0, (77, 1, 45), [], []),
   (.getfield 49, (78, 3, 46), [2, 10, 22, 1008], [22]),
   (.iload 5, (81, 2, 47), [], []),
   (.iaload, (83, 1, 48), [], [])],
  [(.aload_n 0, (84, 1, 49), [], []),
   (.getfield 49, (85, 3, 50), [2, 10, 22, 1008], [22]),
   (.iload 4, (88, 2, 51), [], []),
   (.iaload, (90, 1, 52), [], []),
   (.if_icmp .ne 18, (91, 3, 53), [61], []),
   (.iload_n 3, (94, 1, 54), [], []),
   (.ifCond .ne 8, (95, 3, 55), [57], []),
   (.iload 4, (98, 2, 56), [], []),
   (.goto 8, (100, 3, 57), [60], []),
   (.iload 4, (103, 2, 58), [], []),
   (.iload 5, (105, 2, 59), [], []),
   (.isub, (107, 1, 60), [0], []),
   (.ireturn, (108, 1, 61), [0], []),
   (.iinc 5 1, (109, 3, 62), [], []),
   (.goto (-42), (112, 3, 63), [41], []),
   (.iinc 4 1, (115, 3, 64), [], [])],
  [(.goto (-79), (118, 3, 65), [23], []),
   (.bipush (-5), (121, 2, 66), [], []),
   (.ireturn, (123, 1, 67), [0], [])]]
def rw_M_stands : List (List xq_Row) := [
  [(.aload_n 0, (0, 1, 1), [], []),
   (.iload_n 1, (1, 1, 2), [], []),
   (.invokevirtual 163, (2, 3, 3), [138, 1, 0, 10, 0, 1184, 1186, 39, 1187, 79], []),
   (.ifCond .ne 5, (5, 3, 4), [6], []),
   (.iconst (-1), (8, 1, 5), [], []),
   (.ireturn, (9, 1, 6), [0], []),
   (.iload_n 2, (10, 1, 7), [], []),
   (.invokestatic 153, (11, 3, 8), [140, 1, 0, 0, 1, 1152, 1153, 0, 1154, 79], []),
   (.ifCond .ne 6, (14, 3, 9), [11], []),
   (.bipush (-2), (17, 2, 10), [], []),
   (.ireturn, (19, 1, 11), [0], []),
   (.aload_n 0, (20, 1, 12), [], []),
   (.invokevirtual 229, (21, 3, 13), [143, 0, 0, 10, 0, 1304, 1306, 53, 1307, 79], []),
   (.bipush (-5), (24, 2, 14), [], []),
   (.istore_n 3, (26, 1, 15), [], []),
   (.iconst 1, (27, 1, 16), [], [])],
  [(.istore 4, (28, 2, 17), [], []),
   (.iload 4, (30, 2, 18), [], []),
   (.bipush 30, (32, 2, 19), [], []),
   (.if_icmp .gt 33, (34, 3, 20), [35], []),
   (.iload_n 3, (37, 1, 21), [], []),
   (.bipush (-5), (38, 2, 22), [], []),
   (.if_icmp .ne 27, (40, 3, 23), [35], []),
   (.aload_n 0, (43, 1, 24), [], []),
   (.iload_n 1, (44, 1, 25), [], []),
   (.iload_n 2, (45, 1, 26), [], []),
   (.invokevirtual 208, (46, 3, 27), [179, 2, 0, 10, 0, 1196, 1198, 40, 1199, 79], []),
   (.iload_n 2, (49, 1, 28), [], []),
   (.if_icmp .ne 8, (50, 3, 29), [31], []),
   (.iload 4, (53, 2, 30), [], []),
   (.goto 5, (55, 3, 31), [32], []),
   (.bipush (-5), (58, 2, 32), [], [])],
  [(.istore_n 3, (60, 1, 33), [], []),
   (.iinc 4 1, (61, 3, 34), [], []),
   (.goto (-34), (64, 3, 35), [17], []),
   (.aload_n 0, (67, 1, 36), [], []),
   (.invokevirtual 232, (68, 3, 37), [144, 0, 0, 10, 0, 1308, 1310, 54, 1311, 79], []),
   (.iload_n 3, (71, 1, 38), [], []),
   (.ireturn, (72, 1, 39), [0], [])]]
def rw_M_begins : List (List xq_Row) := [
  [(.iload_n 2, (0, 1, 1), [], []),
   (.invokestatic 67, (1, 3, 2), [141, 1, 0, 0, 1, 1204, 1205, 0, 1206, 79], []),
   (.istore_n 3, (4, 1, 3), [], []),
   (.iload_n 3, (5, 1, 4), [], []),
   (.aload_n 0, (6, 1, 5), [], []),
   (.getfield 9, (7, 3, 6), [2, 10, 1, 987], [1]),
   (.bipush 18, (10, 2, 7), [], []),
   (.iload_n 1, (12, 1, 8), [], []),
   (.iadd, (13, 1, 9), [0], []),
   (.iaload, (14, 1, 10), [], []),
   (.invokestatic 67, (15, 3, 11), [141, 1, 0, 0, 1, 1204, 1205, 0, 1206, 79], []),
   (.if_icmp .gt 24, (18, 3, 12), [24], []),
   (.aload_n 0, (21, 1, 13), [], []),
   (.getfield 9, (22, 3, 14), [2, 10, 1, 987], [1]),
   (.bipush 18, (25, 2, 15), [], []),
   (.iload_n 1, (27, 1, 16), [], [])],
  [(.iadd, (28, 1, 17), [0], []),
   (.iaload, (29, 1, 18), [], []),
   (.iload_n 3, (30, 1, 19), [], []),
   (.invokestatic 177, (31, 3, 20), [142, 2, 0, 0, 1, 1236, 1237, 0, 1238, 79], []),
   (.iload_n 2, (34, 1, 21), [], []),
   (.if_icmp .ne 7, (35, 3, 22), [24], []),
   (.iconst 1, (38, 1, 23), [], []),
   (.goto 4, (39, 3, 24), [25], []),
   (.iconst 0, (42, 1, 25), [], []),
   (.ireturn, (43, 1, 26), [1], [])]]
def rw_M_aheadOf : List (List xq_Row) := [
  [(.iconst 0, (0, 1, 1), [], []),
   (.istore_n 3, (1, 1, 2), [], []),
   (.iconst 0, (2, 1, 3), [], []),
   (.istore 4, (3, 2, 4), [], []),
   (.iload 4, (5, 2, 5), [], []),
   (.aload_n 0, (7, 1, 6), [], []),
   (.getfield 9, (8, 3, 7), [2, 10, 1, 987], [1]),
   (.bipush 11, (11, 2, 8), [], []),
   (.iaload, (13, 1, 9), [], []),
   (.if_icmp .ge 73, (14, 3, 10), [52], []),
   (.iload_n 3, (17, 1, 11), [], []),
   (.aload_n 0, (18, 1, 12), [], []),
   (.iload 4, (19, 2, 13), [], []),
   (.iload_n 2, (21, 1, 14), [], []),
   (.invokevirtual 235, (22, 3, 15), [194, 2, 0, 10, 0, 1316, 1318, 55, 1319, 79], []),
   (.ifCond .eq 53, (25, 3, 16), [47], [])],
  [(.aload_n 0, (28, 1, 17), [], []),
   (.getfield 9, (29, 3, 18), [2, 10, 1, 987], [1]),
   (.iconst 2, (32, 1, 19), [], []),
   (.iload 4, (33, 2, 20), [], []),
   (.iadd, (35, 1, 21), [0], []),
   (.iaload, (36, 1, 22), [], []),
   (.aload_n 0, (37, 1, 23), [], []),
   (.getfield 9, (38, 3, 24), [2, 10, 1, 987], [1]),
   (.iconst 2, (41, 1, 25), [], []),
   (.iload_n 1, (42, 1, 26), [], []),
   (.iadd, (43, 1, 27), [0], []),
   (.iaload, (44, 1, 28), [], []),
   (.if_icmp .gt 29, (45, 3, 29), [45], []),
   (.aload_n 0, (48, 1, 30), [], []),
   (.getfield 9, (49, 3, 31), [2, 10, 1, 987], [1]),
   (.iconst 2, (52, 1, 32), [], [])],
  [(.iload 4, (53, 2, 33), [], []),
   (.iadd, (55, 1, 34), [0], []),
   (.iaload, (56, 1, 35), [], []),
   (.aload_n 0, (57, 1, 36), [], []),
   (.getfield 9, (58, 3, 37), [2, 10, 1, 987], [1]),
   (.iconst 2, (61, 1, 38), [], []),
   (.iload_n 1, (62, 1, 39), [], []),
   (.iadd, (63, 1, 40), [0], []),
   (.iaload, (64, 1, 41), [], []),
   (.if_icmp .ne 13, (65, 3, 42), [47], []),
   (.iload 4, (68, 2, 43), [], []),
   (.iload_n 1, (70, 1, 44), [], []),
   (.if_icmp .ge 7, (71, 3, 45), [47], []),
   (.iconst 1, (74, 1, 46), [], []),
   (.goto 4, (75, 3, 47), [48], []),
   (.iconst 0, (78, 1, 48), [], [])],
  [(.iadd, (79, 1, 49), [0], []),
   (.istore_n 3, (80, 1, 50), [], []),
   (.iinc 4 1, (81, 3, 51), [], []),
   (.goto (-79), (84, 3, 52), [4], []),
   (.iload_n 3, (87, 1, 53), [], []),
   (.ireturn, (88, 1, 54), [0], [])]]
def rw_M_guess : List (List xq_Row) := [
  [(.iload_n 1, (0, 1, 1), [], []),
   (.invokestatic 153, (1, 3, 2), [140, 1, 0, 0, 1, 1152, 1153, 0, 1154, 79], []),
   (.ifCond .ne 6, (4, 3, 3), [5], []),
   (.bipush (-2), (7, 2, 4), [], []),
   (.ireturn, (9, 1, 5), [0], []),
   (.iload_n 2, (10, 1, 6), [], []),
   (.iconst 0, (11, 1, 7), [], []),
   (.iconst 2, (12, 1, 8), [], []),
   (.invokestatic 62, (13, 3, 9), [137, 3, 0, 0, 1, 1085, 1086, 0, 1087, 79], []),
   (.ifCond .ne 5, (16, 3, 10), [12], []),
   (.iconst (-1), (19, 1, 11), [], []),
   (.ireturn, (20, 1, 12), [0], []),
   (.iconst 0, (21, 1, 13), [], []),
   (.istore_n 3, (22, 1, 14), [], []),
   (.iload_n 3, (23, 1, 15), [], []),
   (.aload_n 0, (24, 1, 16), [], [])],
  [(.getfield 9, (25, 3, 17), [2, 10, 1, 987], [1]),
   (.bipush 11, (28, 2, 18), [], []),
   (.iaload, (30, 1, 19), [], []),
   (.if_icmp .ge 30, (31, 3, 20), [35], []),
   (.aload_n 0, (34, 1, 21), [], []),
   (.iload_n 3, (35, 1, 22), [], []),
   (.iload_n 1, (36, 1, 23), [], []),
   (.invokevirtual 235, (37, 3, 24), [194, 2, 0, 10, 0, 1316, 1318, 55, 1319, 79], []),
   (.ifCond .eq 15, (40, 3, 25), [33], []),
   (.aload_n 0, (43, 1, 26), [], []),
   (.iload_n 3, (44, 1, 27), [], []),
   (.iload_n 1, (45, 1, 28), [], []),
   (.invokevirtual 238, (46, 3, 29), [195, 2, 0, 10, 0, 1320, 1322, 56, 1323, 79], []),
   (.iload_n 2, (49, 1, 30), [], []),
   (.if_icmp .ne 5, (50, 3, 31), [33], []),
   (.iload_n 3, (53, 1, 32), [], [])],
  [(.ireturn, (54, 1, 33), [0], []),
   (.iinc 3 1, (55, 3, 34), [], []),
   (.goto (-35), (58, 3, 35), [14], []),
   (.bipush (-5), (61, 2, 36), [], []),
   (.ireturn, (63, 1, 37), [0], [])]]
def rw_M_letter : List (List xq_Row) := [
  [(.aload_n 0, (0, 1, 1), [], []),
   (.iload_n 1, (1, 1, 2), [], []),
   (.invokevirtual 160, (2, 3, 3), [139, 1, 0, 10, 0, 1164, 1166, 38, 1167, 79], []),
   (.ifCond .ne 5, (5, 3, 4), [6], []),
   (.iconst (-1), (8, 1, 5), [], []),
   (.ireturn, (9, 1, 6), [0], []),
   (.iconst 1, (10, 1, 7), [], []),
   (.istore_n 2, (11, 1, 8), [], []),
   (.iload_n 2, (12, 1, 9), [], []),
   (.aload_n 0, (13, 1, 10), [], []),
   (.getfield 9, (14, 3, 11), [2, 10, 1, 987], [1]),
   (.bipush 18, (17, 2, 12), [], []),
   (.iload_n 1, (19, 1, 13), [], []),
   (.iadd, (20, 1, 14), [0], []),
   (.iaload, (21, 1, 15), [], []),
   (.invokestatic 67, (22, 3, 16), [141, 1, 0, 0, 1, 1204, 1205, 0, 1206, 79], [])],
  [(.if_icmp .gt 33, (25, 3, 17), [34], []),
   (.aload_n 0, (28, 1, 18), [], []),
   (.iload_n 1, (29, 1, 19), [], []),
   (.aload_n 0, (30, 1, 20), [], []),
   (.getfield 9, (31, 3, 21), [2, 10, 1, 987], [1]),
   (.bipush 18, (34, 2, 22), [], []),
   (.iload_n 1, (36, 1, 23), [], []),
   (.iadd, (37, 1, 24), [0], []),
   (.iaload, (38, 1, 25), [], []),
   (.iload_n 2, (39, 1, 26), [], []),
   (.invokestatic 177, (40, 3, 27), [142, 2, 0, 0, 1, 1236, 1237, 0, 1238, 79], []),
   (.invokevirtual 238, (43, 3, 28), [195, 2, 0, 10, 0, 1320, 1322, 56, 1323, 79], []),
   (.iconst 3, (46, 1, 29), [], []),
   (.if_icmp .ge 5, (47, 3, 30), [32], []),
   (.iload_n 2, (50, 1, 31), [], []),
   (.ireturn, (51, 1, 32), [0], [])],
  [(.iinc 2 1, (52, 3, 33), [], []),
   (.goto (-43), (55, 3, 34), [8], []),
   (.bipush (-5), (58, 2, 35), [], []),
   (.ireturn, (60, 1, 36), [0], [])]]
def rw_M_enough : List (List xq_Row) := [
  [(.aload_n 0, (0, 1, 1), [], []),
   (.iload_n 1, (1, 1, 2), [], []),
   (.invokevirtual 163, (2, 3, 3), [138, 1, 0, 10, 0, 1184, 1186, 39, 1187, 79], []),
   (.ifCond .eq 11, (5, 3, 4), [8], []),
   (.aload_n 0, (8, 1, 5), [], []),
   (.iload_n 2, (9, 1, 6), [], []),
   (.invokevirtual 160, (10, 3, 7), [139, 1, 0, 10, 0, 1164, 1166, 38, 1167, 79], []),
   (.ifCond .ne 5, (13, 3, 8), [10], []),
   (.iconst (-1), (16, 1, 9), [], []),
   (.ireturn, (17, 1, 10), [0], []),
   (.aload_n 0, (18, 1, 11), [], []),
   (.getfield 9, (19, 3, 12), [2, 10, 1, 987], [1]),
   (.iconst 2, (22, 1, 13), [], []),
   (.iload_n 2, (23, 1, 14), [], []),
   (.iadd, (24, 1, 15), [0], []),
   (.iaload, (25, 1, 16), [], [])],
  [(.istore_n 3, (26, 1, 17), [], []),
   (.bipush (-5), (27, 2, 18), [], []),
   (.istore 4, (29, 2, 19), [], []),
   (.iconst 0, (31, 1, 20), [], []),
   (.istore 5, (32, 2, 21), [], []),
   (.iload 5, (34, 2, 22), [], []),
   (.bipush 100, (36, 2, 23), [], []),
   (.if_icmp .ge 61, (38, 3, 24), [56], []),
   (.iload 4, (41, 2, 25), [], []),
   (.bipush (-5), (43, 2, 26), [], []),
   (.if_icmp .ne 54, (45, 3, 27), [56], []),
   (.aload_n 0, (48, 1, 28), [], []),
   (.getfield 9, (49, 3, 29), [2, 10, 1, 987], [1]),
   (.iconst 2, (52, 1, 30), [], []),
   (.iload_n 2, (53, 1, 31), [], []),
   (.iadd, (54, 1, 32), [0], [])],
  [(.iload 5, (55, 2, 33), [], []),
   (.iastore, (57, 1, 34), [], []),
   (.aload_n 0, (58, 1, 35), [], []),
   (.iload_n 1, (59, 1, 36), [], []),
   (.aload_n 0, (60, 1, 37), [], []),
   (.getfield 9, (61, 3, 38), [2, 10, 1, 987], [1]),
   (.bipush 18, (64, 2, 39), [], []),
   (.iload_n 2, (66, 1, 40), [], []),
   (.iadd, (67, 1, 41), [0], []),
   (.iaload, (68, 1, 42), [], []),
   (.invokevirtual 205, (69, 3, 43), [178, 2, 0, 10, 0, 1200, 1202, 41, 1203, 79], []),
   (.aload_n 0, (72, 1, 44), [], []),
   (.getfield 9, (73, 3, 45), [2, 10, 1, 987], [1]),
   (.bipush 18, (76, 2, 46), [], []),
   (.iload_n 2, (78, 1, 47), [], []),
   (.iadd, (79, 1, 48), [0], [])],
  [(.iaload, (80, 1, 49), [], []),
   (.if_icmp .ne 8, (81, 3, 50), [52], []),
   (.iload 5, (84, 2, 51), [], []),
   (.goto 5, (86, 3, 52), [53], []),
   (.bipush (-5), (89, 2, 53), [], []),
   (.istore 4, (91, 2, 54), [], []),
   (.iinc 5 1, (93, 3, 55), [], []),
   (.goto (-62), (96, 3, 56), [21], []),
   (.aload_n 0, (99, 1, 57), [], []),
   (.getfield 9, (100, 3, 58), [2, 10, 1, 987], [1]),
   (.iconst 2, (103, 1, 59), [], []),
   (.iload_n 2, (104, 1, 60), [], []),
   (.iadd, (105, 1, 61), [0], []),
   (.iload_n 3, (106, 1, 62), [], []),
   (.iastore, (107, 1, 63), [], []),
   (.iload 4, (108, 2, 64), [], [])],
  [(.ireturn, (110, 1, 65), [0], [])]]
def rw_M_slipsFrom : List (List xq_Row) := [
  [(.aload_n 0, (0, 1, 1), [], []),
   (.iconst 0, (1, 1, 2), [], []),
   (.putfield 241, (2, 3, 3), [0, 10, 23, 1009, 0], [23]),
   (.aload_n 0, (5, 1, 4), [], []),
   (.iconst 0, (6, 1, 5), [], []),
   (.putfield 244, (7, 3, 6), [0, 10, 24, 1010, 0], [24]),
   (.aload_n 0, (10, 1, 7), [], []),
   (.iload_n 1, (11, 1, 8), [], []),
   (.iload_n 2, (12, 1, 9), [], []),
   (.invokestatic 67, (13, 3, 10), [141, 1, 0, 0, 1, 1204, 1205, 0, 1206, 79], []),
   (.invokevirtual 198, (16, 3, 11), [174, 2, 0, 10, 0, 1207, 1209, 42, 1210, 79], []),
   (.iconst 1, (19, 1, 12), [], []),
   (.istore 4, (20, 2, 13), [], []),
   (.iload_n 2, (22, 1, 14), [], []),
   (.istore 5, (23, 2, 15), [], []),
   (.iload 5, (25, 2, 16), [], [])],
  [(.ifCond .le 95, (27, 3, 17), [67], []),
   (.iconst 1, (30, 1, 18), [], []),
   (.istore 6, (31, 2, 19), [], []),
   (.iload 6, (33, 2, 20), [], []),
   (.bipush 9, (35, 2, 21), [], []),
   (.if_icmp .ge 68, (37, 3, 22), [58], []),
   (.iload 5, (40, 2, 23), [], []),
   (.bipush 10, (42, 2, 24), [], []),
   (.irem, (44, 1, 25), [], []),
   (.iload 6, (45, 2, 26), [], []),
   (.invokestatic 170, (47, 3, 27), [169, 2, 0, 0, 1, 1246, 1247, 0, 1248, 79], []),
   (.ifCond .eq 49, (50, 3, 28), [56], []),
   (.aload_n 0, (53, 1, 29), [], []),
   (.dup, (54, 1, 30), [], []),
   (.getfield 241, (55, 3, 31), [0, 10, 23, 1009], [23]),
   (.iconst 1, (58, 1, 32), [], [])],
  [(.iadd, (59, 1, 33), [0], []),
   (.putfield 241, (60, 3, 34), [0, 10, 23, 1009, 0], [23]),
   (.aload_n 0, (63, 1, 35), [], []),
   (.dup, (64, 1, 36), [], []),
   (.getfield 244, (65, 3, 37), [0, 10, 24, 1010], [24]),
   (.aload_n 0, (68, 1, 38), [], []),
   (.iload_n 1, (69, 1, 39), [], []),
   (.iload_n 2, (70, 1, 40), [], []),
   (.iload 6, (71, 2, 41), [], []),
   (.iload 5, (73, 2, 42), [], []),
   (.bipush 10, (75, 2, 43), [], []),
   (.irem, (77, 1, 44), [], []),
   (.isub, (78, 1, 45), [0], []),
   (.iload 4, (79, 2, 46), [], []),
   (.imul, (81, 1, 47), [0], []),
   (.iadd, (82, 1, 48), [0], [])],
  [(.invokevirtual 202, (83, 3, 49), [177, 2, 0, 10, 0, 1219, 1221, 45, 1222, 79], []),
   (.iload_n 3, (86, 1, 50), [], []),
   (.if_icmp .ne 7, (87, 3, 51), [53], []),
   (.iconst 1, (90, 1, 52), [], []),
   (.goto 4, (91, 3, 53), [54], []),
   (.iconst 0, (94, 1, 54), [], []),
   (.iadd, (95, 1, 55), [0], []),
   (.putfield 244, (96, 3, 56), [0, 10, 24, 1010, 0], [24]),
   (.iinc 6 1, (99, 3, 57), [], []),
   (.goto (-69), (102, 3, 58), [19], []),
   (.iload 4, (105, 2, 59), [], []),
   (.bipush 10, (107, 2, 60), [], []),
   (.imul, (109, 1, 61), [0], []),
   (.istore 4, (110, 2, 62), [], []),
   (.iload 5, (112, 2, 63), [], []),
   (.bipush 10, (114, 2, 64), [], [])],
  [(.idiv, (116, 1, 65), [], []),
   (.istore 5, (117, 2, 66), [], []),
   (.goto (-94), (119, 3, 67), [15], []),
   (.return_, (122, 1, 68), [], [])]]
def rw_M_lowest : List (List xq_Row) := [
  [(.lload_n 0, (0, 1, 1), [], []),
   (.lstore 5, (1, 2, 2), [], []),
   (.lload_n 2, (3, 1, 3), [], []),
   (.lstore 7, (4, 2, 4), [], []),
   (.lload 7, (6, 2, 5), [], []),
   (.lconst 0, (8, 1, 6), [], [0]),
   (.lcmp, (9, 1, 7), [], []),
   (.ifCond .eq 21, (10, 3, 8), [17], []),
   (.lload 5, (13, 2, 9), [], []),
   (.lload 7, (15, 2, 10), [], []),
   (.lrem, (17, 1, 11), [], []),
   (.lstore 9, (18, 2, 12), [], []),
   (.lload 7, (20, 2, 13), [], []),
   (.lstore 5, (22, 2, 14), [], []),
   (.lload 9, (24, 2, 15), [], []),
   (.lstore 7, (26, 2, 16), [], [])],
  [(.goto (-22), (28, 3, 17), [4], []),
   (.iload 4, (31, 2, 18), [], []),
   (.ifCond .ne 7, (33, 3, 19), [21], []),
   (.lload_n 0, (36, 1, 20), [], []),
   (.goto 4, (37, 3, 21), [22], []),
   (.lload_n 2, (40, 1, 22), [], []),
   (.lload 5, (41, 2, 23), [], []),
   (.ldiv, (43, 1, 24), [], []),
   (.lreturn, (44, 1, 25), [], [])]]
def rw_M_slips : List (List xq_Row) := [
  [(.aload_n 0, (0, 1, 1), [], []),
   (.iload_n 1, (1, 1, 2), [], []),
   (.invokevirtual 163, (2, 3, 3), [138, 1, 0, 10, 0, 1184, 1186, 39, 1187, 79], []),
   (.ifCond .eq 19, (5, 3, 4), [12], []),
   (.iload_n 2, (8, 1, 5), [], []),
   (.invokestatic 153, (9, 3, 6), [140, 1, 0, 0, 1, 1152, 1153, 0, 1154, 79], []),
   (.ifCond .eq 12, (12, 3, 7), [12], []),
   (.iload_n 3, (15, 1, 8), [], []),
   (.iconst 0, (16, 1, 9), [], []),
   (.iconst 1, (17, 1, 10), [], []),
   (.invokestatic 62, (18, 3, 11), [137, 3, 0, 0, 1, 1085, 1086, 0, 1087, 79], []),
   (.ifCond .ne 7, (21, 3, 12), [14], []),
   (.ldc2_w 247, (24, 3, 13), [1336], [-9223372036854775808]),
   (.lreturn, (27, 1, 14), [], []),
   (.aload_n 0, (28, 1, 15), [], []),
   (.iload_n 1, (29, 1, 16), [], [])],
  [(.iload_n 2, (30, 1, 17), [], []),
   (.iload_n 2, (31, 1, 18), [], []),
   (.invokevirtual 249, (32, 3, 19), [199, 3, 0, 10, 0, 1337, 1339, 57, 1340, 79], []),
   (.aload_n 0, (35, 1, 20), [], []),
   (.getfield 244, (36, 3, 21), [0, 10, 24, 1010], [24]),
   (.i2l, (39, 1, 22), [], []),
   (.aload_n 0, (40, 1, 23), [], []),
   (.getfield 241, (41, 3, 24), [0, 10, 23, 1009], [23]),
   (.i2l, (44, 1, 25), [], []),
   (.iload_n 3, (45, 1, 26), [], []),
   (.invokestatic 253, (46, 3, 27), [200, 3, 0, 0, 1, 1341, 1342, 0, 1343, 79], []),
   (.lreturn, (49, 1, 28), [], [])]]
def rw_M_count1 : List (List xq_Row) := [
  [(.iconst 0, (0, 1, 1), [], []),
   (.istore_n 1, (1, 1, 2), [], []),
   (.iload_n 0, (2, 1, 3), [], []),
   (.istore_n 2, (3, 1, 4), [], []),
   (.iload_n 2, (4, 1, 5), [], []),
   (.ifCond .eq 15, (5, 3, 6), [14], []),
   (.iinc 1 1, (8, 3, 7), [], []),
   (.iload_n 2, (11, 1, 8), [], []),
   (.iload_n 2, (12, 1, 9), [], []),
   (.iconst 1, (13, 1, 10), [], []),
   (.isub, (14, 1, 11), [0], []),
   (.iand, (15, 1, 12), [], []),
   (.istore_n 2, (16, 1, 13), [], []),
   (.goto (-13), (17, 3, 14), [4], []),
   (.iload_n 1, (20, 1, 15), [], []),
   (.ireturn, (21, 1, 16), [0], [])]]
def rw_M_wrong : List (List xq_Row) := [
  [(.aload_n 0, (0, 1, 1), [], []),
   (.iload_n 1, (1, 1, 2), [], []),
   (.invokevirtual 163, (2, 3, 3), [138, 1, 0, 10, 0, 1184, 1186, 39, 1187, 79], []),
   (.ifCond .eq 22, (5, 3, 4), [14], []),
   (.iload_n 2, (8, 1, 5), [], []),
   (.iconst 0, (9, 1, 6), [], []),
   (.iconst 1, (10, 1, 7), [], []),
   (.invokestatic 62, (11, 3, 8), [137, 3, 0, 0, 1, 1085, 1086, 0, 1087, 79], []),
   (.ifCond .eq 13, (14, 3, 9), [14], []),
   (.aload_n 0, (17, 1, 10), [], []),
   (.getfield 9, (18, 3, 11), [2, 10, 1, 987], [1]),
   (.bipush 11, (21, 2, 12), [], []),
   (.iaload, (23, 1, 13), [], []),
   (.ifCond .ne 7, (24, 3, 14), [16], []),
   (.ldc2_w 247, (27, 3, 15), [1336], [-9223372036854775808]),
   (.lreturn, (30, 1, 16), [], [])],
  [(.aload_n 0, (31, 1, 17), [], []),
   (.getfield 9, (32, 3, 18), [2, 10, 1, 987], [1]),
   (.bipush 11, (35, 2, 19), [], []),
   (.iaload, (37, 1, 20), [], []),
   (.aload_n 0, (38, 1, 21), [], []),
   (.iload_n 1, (39, 1, 22), [], []),
   (.invokevirtual 211, (40, 3, 23), [186, 1, 0, 10, 0, 1276, 1278, 50, 1279, 79], []),
   (.invokestatic 257, (43, 3, 24), [202, 1, 0, 0, 1, 1348, 1349, 0, 1350, 79], []),
   (.isub, (46, 1, 25), [0], []),
   (.i2l, (47, 1, 26), [], []),
   (.aload_n 0, (48, 1, 27), [], []),
   (.getfield 9, (49, 3, 28), [2, 10, 1, 987], [1]),
   (.bipush 11, (52, 2, 29), [], []),
   (.iaload, (54, 1, 30), [], []),
   (.i2l, (55, 1, 31), [], []),
   (.iload_n 2, (56, 1, 32), [], [])],
  [(.invokestatic 253, (57, 3, 33), [200, 3, 0, 0, 1, 1341, 1342, 0, 1343, 79], []),
   (.lreturn, (60, 1, 34), [], [])]]
def rw_M_unlike : List (List xq_Row) := [
  [(.iconst 0, (0, 1, 1), [], []),
   (.istore_n 1, (1, 1, 2), [], []),
   (.iconst 0, (2, 1, 3), [], []),
   (.istore_n 2, (3, 1, 4), [], []),
   (.iload_n 2, (4, 1, 5), [], []),
   (.aload_n 0, (5, 1, 6), [], []),
   (.getfield 9, (6, 3, 7), [2, 10, 1, 987], [1]),
   (.bipush 11, (9, 2, 8), [], []),
   (.iaload, (11, 1, 9), [], []),
   (.if_icmp .ge 64, (12, 3, 10), [44], []),
   (.iconst 1, (15, 1, 11), [], []),
   (.istore_n 3, (16, 1, 12), [], []),
   (.iconst 0, (17, 1, 13), [], []),
   (.istore 4, (18, 2, 14), [], []),
   (.iload 4, (20, 2, 15), [], []),
   (.iload_n 2, (22, 1, 16), [], [])],
  [(.if_icmp .ge 35, (23, 3, 17), [34], []),
   (.iload_n 3, (26, 1, 18), [], []),
   (.ifCond .eq 23, (27, 3, 19), [30], []),
   (.aload_n 0, (30, 1, 20), [], []),
   (.getfield 52, (31, 3, 21), [2, 10, 25, 1011], [25]),
   (.iload 4, (34, 2, 22), [], []),
   (.iaload, (36, 1, 23), [], []),
   (.aload_n 0, (37, 1, 24), [], []),
   (.getfield 52, (38, 3, 25), [2, 10, 25, 1011], [25]),
   (.iload_n 2, (41, 1, 26), [], []),
   (.iaload, (42, 1, 27), [], []),
   (.if_icmp .eq 7, (43, 3, 28), [30], []),
   (.iconst 1, (46, 1, 29), [], []),
   (.goto 4, (47, 3, 30), [31], []),
   (.iconst 0, (50, 1, 31), [], []),
   (.istore_n 3, (51, 1, 32), [], [])],
  [(.iinc 4 1, (52, 3, 33), [], []),
   (.goto (-35), (55, 3, 34), [14], []),
   (.iload_n 1, (58, 1, 35), [], []),
   (.iload_n 3, (59, 1, 36), [], []),
   (.ifCond .eq 7, (60, 3, 37), [39], []),
   (.iconst 1, (63, 1, 38), [], []),
   (.goto 4, (64, 3, 39), [40], []),
   (.iconst 0, (67, 1, 40), [], []),
   (.iadd, (68, 1, 41), [0], []),
   (.istore_n 1, (69, 1, 42), [], []),
   (.iinc 2 1, (70, 3, 43), [], []),
   (.goto (-69), (73, 3, 44), [4], []),
   (.iload_n 1, (76, 1, 45), [], []),
   (.ireturn, (77, 1, 46), [0], [])]]
def rw_M_goesRound : List (List xq_Row) := [
  [(.iconst 0, (0, 1, 1), [], []),
   (.istore_n 2, (1, 1, 2), [], []),
   (.iconst 0, (2, 1, 3), [], []),
   (.istore_n 3, (3, 1, 4), [], []),
   (.iload_n 3, (4, 1, 5), [], []),
   (.aload_n 0, (5, 1, 6), [], []),
   (.getfield 9, (6, 3, 7), [2, 10, 1, 987], [1]),
   (.bipush 11, (9, 2, 8), [], []),
   (.iaload, (11, 1, 9), [], []),
   (.if_icmp .ge 51, (12, 3, 10), [37], []),
   (.aload_n 0, (15, 1, 11), [], []),
   (.iload_n 1, (16, 1, 12), [], []),
   (.aload_n 0, (17, 1, 13), [], []),
   (.getfield 52, (18, 3, 14), [2, 10, 25, 1011], [25]),
   (.iload_n 3, (21, 1, 15), [], []),
   (.iaload, (22, 1, 16), [], [])],
  [(.invokevirtual 208, (23, 3, 17), [179, 2, 0, 10, 0, 1196, 1198, 40, 1199, 79], []),
   (.istore 4, (26, 2, 18), [], []),
   (.iload_n 2, (28, 1, 19), [], []),
   (.ifCond .ne 14, (29, 3, 20), [26], []),
   (.iload 4, (32, 2, 21), [], []),
   (.aload_n 0, (34, 1, 22), [], []),
   (.getfield 52, (35, 3, 23), [2, 10, 25, 1011], [25]),
   (.iload_n 3, (38, 1, 24), [], []),
   (.iaload, (39, 1, 25), [], []),
   (.if_icmp .eq 7, (40, 3, 26), [28], []),
   (.iconst 1, (43, 1, 27), [], []),
   (.goto 4, (44, 3, 28), [29], []),
   (.iconst 0, (47, 1, 29), [], []),
   (.istore_n 2, (48, 1, 30), [], []),
   (.aload_n 0, (49, 1, 31), [], []),
   (.getfield 52, (50, 3, 32), [2, 10, 25, 1011], [25])],
  [(.iload_n 3, (53, 1, 33), [], []),
   (.iload 4, (54, 2, 34), [], []),
   (.iastore, (56, 1, 35), [], []),
   (.iinc 3 1, (57, 3, 36), [], []),
   (.goto (-56), (60, 3, 37), [4], []),
   (.iload_n 2, (63, 1, 38), [], []),
   (.ireturn, (64, 1, 39), [1], [])]]
def rw_M_chain : List (List xq_Row) := [
  [(.aload_n 0, (0, 1, 1), [], []),
   (.iload_n 1, (1, 1, 2), [], []),
   (.invokevirtual 163, (2, 3, 3), [138, 1, 0, 10, 0, 1184, 1186, 39, 1187, 79], []),
   (.ifCond .eq 23, (5, 3, 4), [15], []),
   (.iload_n 3, (8, 1, 5), [], []),
   (.iconst 0, (9, 1, 6), [], []),
   (.iconst 1, (10, 1, 7), [], []),
   (.invokestatic 62, (11, 3, 8), [137, 3, 0, 0, 1, 1085, 1086, 0, 1087, 79], []),
   (.ifCond .ne 16, (14, 3, 9), [17], []),
   (.aload_n 0, (17, 1, 10), [], []),
   (.iload_n 3, (18, 1, 11), [], []),
   (.bipush 10, (19, 2, 12), [], []),
   (.isub, (21, 1, 13), [1], []),
   (.invokevirtual 160, (22, 3, 14), [139, 1, 0, 10, 0, 1164, 1166, 38, 1167, 79], []),
   (.ifCond .ne 5, (25, 3, 15), [17], []),
   (.iconst (-1), (28, 1, 16), [], [])],
  [(.ireturn, (29, 1, 17), [0], []),
   (.iload_n 2, (30, 1, 18), [], []),
   (.iconst 1, (31, 1, 19), [], []),
   (.bipush 10, (32, 2, 20), [], []),
   (.invokestatic 62, (34, 3, 21), [137, 3, 0, 0, 1, 1085, 1086, 0, 1087, 79], []),
   (.ifCond .ne 6, (37, 3, 22), [24], []),
   (.bipush (-2), (40, 2, 23), [], []),
   (.ireturn, (42, 1, 24), [0], []),
   (.iconst 0, (43, 1, 25), [], []),
   (.istore 4, (44, 2, 26), [], []),
   (.iload 4, (46, 2, 27), [], []),
   (.aload_n 0, (48, 1, 28), [], []),
   (.getfield 9, (49, 3, 29), [2, 10, 1, 987], [1]),
   (.bipush 11, (52, 2, 30), [], []),
   (.iaload, (54, 1, 31), [], []),
   (.if_icmp .ge 26, (55, 3, 32), [44], [])],
  [(.aload_n 0, (58, 1, 33), [], []),
   (.getfield 52, (59, 3, 34), [2, 10, 25, 1011], [25]),
   (.iload 4, (62, 2, 35), [], []),
   (.aload_n 0, (64, 1, 36), [], []),
   (.getfield 9, (65, 3, 37), [2, 10, 1, 987], [1]),
   (.bipush 18, (68, 2, 38), [], []),
   (.iload 4, (70, 2, 39), [], []),
   (.iadd, (72, 1, 40), [0], []),
   (.iaload, (73, 1, 41), [], []),
   (.iastore, (74, 1, 42), [], []),
   (.iinc 4 1, (75, 3, 43), [], []),
   (.goto (-32), (78, 3, 44), [26], []),
   (.aload_n 0, (81, 1, 45), [], []),
   (.invokevirtual 229, (82, 3, 46), [143, 0, 0, 10, 0, 1304, 1306, 53, 1307, 79], []),
   (.aload_n 0, (85, 1, 47), [], []),
   (.getfield 9, (86, 3, 48), [2, 10, 1, 987], [1])],
  [(.iconst 0, (89, 1, 49), [], []),
   (.iconst 0, (90, 1, 50), [], []),
   (.iastore, (91, 1, 51), [], []),
   (.bipush (-5), (92, 2, 52), [], []),
   (.istore 4, (94, 2, 53), [], []),
   (.iconst 0, (96, 1, 54), [], []),
   (.istore 5, (97, 2, 55), [], []),
   (.iload 5, (99, 2, 56), [], []),
   (.iload_n 2, (101, 1, 57), [], []),
   (.if_icmp .ge 33, (102, 3, 58), [71], []),
   (.aload_n 0, (105, 1, 59), [], []),
   (.iload_n 1, (106, 1, 60), [], []),
   (.invokevirtual 260, (107, 3, 61), [205, 1, 0, 10, 0, 1355, 1357, 58, 1358, 79], []),
   (.ifCond .ne 15, (110, 3, 62), [67], []),
   (.iload 4, (113, 2, 63), [], []),
   (.bipush (-5), (115, 2, 64), [], [])],
  [(.if_icmp .ne 8, (117, 3, 65), [67], []),
   (.iload 5, (120, 2, 66), [], []),
   (.goto 5, (122, 3, 67), [68], []),
   (.iload 4, (125, 2, 68), [], []),
   (.istore 4, (127, 2, 69), [], []),
   (.iinc 5 1, (129, 3, 70), [], []),
   (.goto (-33), (132, 3, 71), [55], []),
   (.aload_n 0, (135, 1, 72), [], []),
   (.invokevirtual 232, (136, 3, 73), [144, 0, 0, 10, 0, 1308, 1310, 54, 1311, 79], []),
   (.iload_n 3, (139, 1, 74), [], []),
   (.ifCond .ne 10, (140, 3, 75), [78], []),
   (.aload_n 0, (143, 1, 76), [], []),
   (.invokevirtual 263, (144, 3, 77), [204, 0, 0, 10, 0, 1359, 1361, 59, 1362, 79], []),
   (.goto 22, (147, 3, 78), [89], []),
   (.iload_n 3, (150, 1, 79), [], []),
   (.iconst 1, (151, 1, 80), [], [])],
  [(.if_icmp .ne 8, (152, 3, 81), [83], []),
   (.iload 4, (155, 2, 82), [], []),
   (.goto 12, (157, 3, 83), [89], []),
   (.aload_n 0, (160, 1, 84), [], []),
   (.getfield 52, (161, 3, 85), [2, 10, 25, 1011], [25]),
   (.iload_n 3, (164, 1, 86), [], []),
   (.bipush 10, (165, 2, 87), [], []),
   (.isub, (167, 1, 88), [1], []),
   (.iaload, (168, 1, 89), [], []),
   (.ireturn, (169, 1, 90), [0], [])]]
def rw_M_waysOf : List (List xq_Row) := [
  [(.aload_n 0, (0, 1, 1), [], []),
   (.iload_n 1, (1, 1, 2), [], []),
   (.aload_n 0, (2, 1, 3), [], []),
   (.getfield 9, (3, 3, 4), [2, 10, 1, 987], [1]),
   (.bipush 18, (6, 2, 5), [], []),
   (.iload_n 2, (8, 1, 6), [], []),
   (.iadd, (9, 1, 7), [0], []),
   (.iaload, (10, 1, 8), [], []),
   (.iload_n 3, (11, 1, 9), [], []),
   (.invokevirtual 249, (12, 3, 10), [199, 3, 0, 10, 0, 1337, 1339, 57, 1340, 79], []),
   (.aload_n 0, (15, 1, 11), [], []),
   (.getfield 244, (16, 3, 12), [0, 10, 24, 1010], [24]),
   (.aload_n 0, (19, 1, 13), [], []),
   (.iload_n 1, (20, 1, 14), [], []),
   (.aload_n 0, (21, 1, 15), [], []),
   (.getfield 9, (22, 3, 16), [2, 10, 1, 987], [1])],
  [(.bipush 18, (25, 2, 17), [], []),
   (.iload_n 2, (27, 1, 18), [], []),
   (.iadd, (28, 1, 19), [0], []),
   (.iaload, (29, 1, 20), [], []),
   (.invokevirtual 202, (30, 3, 21), [177, 2, 0, 10, 0, 1219, 1221, 45, 1222, 79], []),
   (.iload_n 3, (33, 1, 22), [], []),
   (.if_icmp .ne 7, (34, 3, 23), [25], []),
   (.iconst 1, (37, 1, 24), [], []),
   (.goto 4, (38, 3, 25), [26], []),
   (.iconst 0, (41, 1, 26), [], []),
   (.iadd, (42, 1, 27), [0], []),
   (.ireturn, (43, 1, 28), [0], [])]]
def rw_M_meant : List (List xq_Row) := [
  [(.aload_n 0, (0, 1, 1), [], []),
   (.iload_n 1, (1, 1, 2), [], []),
   (.invokevirtual 163, (2, 3, 3), [138, 1, 0, 10, 0, 1184, 1186, 39, 1187, 79], []),
   (.ifCond .ne 5, (5, 3, 4), [6], []),
   (.iconst (-1), (8, 1, 5), [], []),
   (.ireturn, (9, 1, 6), [0], []),
   (.iload_n 2, (10, 1, 7), [], []),
   (.invokestatic 153, (11, 3, 8), [140, 1, 0, 0, 1, 1152, 1153, 0, 1154, 79], []),
   (.ifCond .ne 6, (14, 3, 9), [11], []),
   (.bipush (-2), (17, 2, 10), [], []),
   (.ireturn, (19, 1, 11), [0], []),
   (.iconst 0, (20, 1, 12), [], []),
   (.istore_n 3, (21, 1, 13), [], []),
   (.iconst 0, (22, 1, 14), [], []),
   (.istore 4, (23, 2, 15), [], []),
   (.iload 4, (25, 2, 16), [], [])],
  [(.aload_n 0, (27, 1, 17), [], []),
   (.getfield 9, (28, 3, 18), [2, 10, 1, 987], [1]),
   (.bipush 11, (31, 2, 19), [], []),
   (.iaload, (33, 1, 20), [], []),
   (.if_icmp .ge 31, (34, 3, 21), [37], []),
   (.iload_n 3, (37, 1, 22), [], []),
   (.aload_n 0, (38, 1, 23), [], []),
   (.iload_n 1, (39, 1, 24), [], []),
   (.iload 4, (40, 2, 25), [], []),
   (.iload_n 2, (42, 1, 26), [], []),
   (.invokevirtual 266, (43, 3, 27), [207, 3, 0, 10, 0, 1367, 1369, 60, 1370, 79], []),
   (.ifCond .le 10, (46, 3, 28), [32], []),
   (.iconst 1, (49, 1, 29), [], []),
   (.iload 4, (50, 2, 30), [], []),
   (.ishl, (52, 1, 31), [], []),
   (.goto 4, (53, 3, 32), [33], [])],
  [(.iconst 0, (56, 1, 33), [], []),
   (.ior, (57, 1, 34), [], []),
   (.istore_n 3, (58, 1, 35), [], []),
   (.iinc 4 1, (59, 3, 36), [], []),
   (.goto (-37), (62, 3, 37), [15], []),
   (.iload_n 3, (65, 1, 38), [], []),
   (.ireturn, (66, 1, 39), [0], [])]]
def rw_M_likeliest : List (List xq_Row) := [
  [(.aload_n 0, (0, 1, 1), [], []),
   (.iload_n 1, (1, 1, 2), [], []),
   (.invokevirtual 163, (2, 3, 3), [138, 1, 0, 10, 0, 1184, 1186, 39, 1187, 79], []),
   (.ifCond .ne 5, (5, 3, 4), [6], []),
   (.iconst (-1), (8, 1, 5), [], []),
   (.ireturn, (9, 1, 6), [0], []),
   (.iload_n 2, (10, 1, 7), [], []),
   (.invokestatic 153, (11, 3, 8), [140, 1, 0, 0, 1, 1152, 1153, 0, 1154, 79], []),
   (.ifCond .ne 6, (14, 3, 9), [11], []),
   (.bipush (-2), (17, 2, 10), [], []),
   (.ireturn, (19, 1, 11), [0], []),
   (.bipush (-5), (20, 2, 12), [], []),
   (.istore_n 3, (22, 1, 13), [], []),
   (.iconst 0, (23, 1, 14), [], []),
   (.istore 4, (24, 2, 15), [], []),
   (.iconst 0, (26, 1, 16), [], [])],
  [(.istore 5, (27, 2, 17), [], []),
   (.iload 5, (29, 2, 18), [], []),
   (.aload_n 0, (31, 1, 19), [], []),
   (.getfield 9, (32, 3, 20), [2, 10, 1, 987], [1]),
   (.bipush 11, (35, 2, 21), [], []),
   (.iaload, (37, 1, 22), [], []),
   (.if_icmp .ge 61, (38, 3, 23), [54], []),
   (.aload_n 0, (41, 1, 24), [], []),
   (.getfield 9, (42, 3, 25), [2, 10, 1, 987], [1]),
   (.iconst 2, (45, 1, 26), [], []),
   (.iload 5, (46, 2, 27), [], []),
   (.iadd, (48, 1, 28), [0], []),
   (.iaload, (49, 1, 29), [], []),
   (.iconst 1, (50, 1, 30), [], []),
   (.iadd, (51, 1, 31), [0], []),
   (.aload_n 0, (52, 1, 32), [], [])],
  [(.iload_n 1, (53, 1, 33), [], []),
   (.iload 5, (54, 2, 34), [], []),
   (.iload_n 2, (56, 1, 35), [], []),
   (.invokevirtual 266, (57, 3, 36), [207, 3, 0, 10, 0, 1367, 1369, 60, 1370, 79], []),
   (.imul, (60, 1, 37), [0], []),
   (.istore 6, (61, 2, 38), [], []),
   (.iload 6, (63, 2, 39), [], []),
   (.iload 4, (65, 2, 40), [], []),
   (.if_icmp .le 8, (67, 3, 41), [43], []),
   (.iload 5, (70, 2, 42), [], []),
   (.goto 4, (72, 3, 43), [44], []),
   (.iload_n 3, (75, 1, 44), [], []),
   (.istore_n 3, (76, 1, 45), [], []),
   (.iload 6, (77, 2, 46), [], []),
   (.iload 4, (79, 2, 47), [], []),
   (.if_icmp .le 8, (81, 3, 48), [50], [])],
  [(.iload 6, (84, 2, 49), [], []),
   (.goto 5, (86, 3, 50), [51], []),
   (.iload 4, (89, 2, 51), [], []),
   (.istore 4, (91, 2, 52), [], []),
   (.iinc 5 1, (93, 3, 53), [], []),
   (.goto (-67), (96, 3, 54), [17], []),
   (.iload_n 3, (99, 1, 55), [], []),
   (.ireturn, (100, 1, 56), [0], [])]]
def rw_M_who : List (List xq_Row) := [
  [(.iload_n 1, (0, 1, 1), [], []),
   (.invokestatic 153, (1, 3, 2), [140, 1, 0, 0, 1, 1152, 1153, 0, 1154, 79], []),
   (.ifCond .eq 10, (4, 3, 3), [6], []),
   (.iload_n 2, (7, 1, 4), [], []),
   (.invokestatic 153, (8, 3, 5), [140, 1, 0, 0, 1, 1152, 1153, 0, 1154, 79], []),
   (.ifCond .ne 6, (11, 3, 6), [8], []),
   (.bipush (-2), (14, 2, 7), [], []),
   (.ireturn, (16, 1, 8), [0], []),
   (.iconst 0, (17, 1, 9), [], []),
   (.istore_n 3, (18, 1, 10), [], []),
   (.iconst 0, (19, 1, 11), [], []),
   (.istore 4, (20, 2, 12), [], []),
   (.iload 4, (22, 2, 13), [], []),
   (.aload_n 0, (24, 1, 14), [], []),
   (.getfield 9, (25, 3, 15), [2, 10, 1, 987], [1]),
   (.bipush 10, (28, 2, 16), [], [])],
  [(.iaload, (30, 1, 17), [], []),
   (.if_icmp .ge 31, (31, 3, 18), [34], []),
   (.iload_n 3, (34, 1, 19), [], []),
   (.aload_n 0, (35, 1, 20), [], []),
   (.iload 4, (36, 2, 21), [], []),
   (.iload_n 1, (38, 1, 22), [], []),
   (.invokevirtual 205, (39, 3, 23), [178, 2, 0, 10, 0, 1200, 1202, 41, 1203, 79], []),
   (.iload_n 2, (42, 1, 24), [], []),
   (.if_icmp .ne 10, (43, 3, 25), [29], []),
   (.iconst 1, (46, 1, 26), [], []),
   (.iload 4, (47, 2, 27), [], []),
   (.ishl, (49, 1, 28), [], []),
   (.goto 4, (50, 3, 29), [30], []),
   (.iconst 0, (53, 1, 30), [], []),
   (.ior, (54, 1, 31), [], []),
   (.istore_n 3, (55, 1, 32), [], [])],
  [(.iinc 4 1, (56, 3, 33), [], []),
   (.goto (-37), (59, 3, 34), [12], []),
   (.iload_n 3, (62, 1, 35), [], []),
   (.ireturn, (63, 1, 36), [0], [])]]
def rw_M_twins : List (List xq_Row) := [
  [(.bipush (-5), (0, 2, 1), [], []),
   (.istore_n 1, (2, 1, 2), [], []),
   (.ldc 194, (3, 2, 3), [0, 1227], [1000000]),
   (.istore_n 2, (5, 1, 4), [], []),
   (.iconst 0, (6, 1, 5), [], []),
   (.istore_n 3, (7, 1, 6), [], []),
   (.iload_n 3, (8, 1, 7), [], []),
   (.aload_n 0, (9, 1, 8), [], []),
   (.getfield 9, (10, 3, 9), [2, 10, 1, 987], [1]),
   (.bipush 11, (13, 2, 10), [], []),
   (.iaload, (15, 1, 11), [], []),
   (.if_icmp .ge 89, (16, 3, 12), [60], []),
   (.iload_n 3, (19, 1, 13), [], []),
   (.iconst 1, (20, 1, 14), [], []),
   (.iadd, (21, 1, 15), [0], []),
   (.istore 4, (22, 2, 16), [], [])],
  [(.iload 4, (24, 2, 17), [], []),
   (.aload_n 0, (26, 1, 18), [], []),
   (.getfield 9, (27, 3, 19), [2, 10, 1, 987], [1]),
   (.bipush 11, (30, 2, 20), [], []),
   (.iaload, (32, 1, 21), [], []),
   (.if_icmp .ge 66, (33, 3, 22), [58], []),
   (.aload_n 0, (36, 1, 23), [], []),
   (.aload_n 0, (37, 1, 24), [], []),
   (.getfield 9, (38, 3, 25), [2, 10, 1, 987], [1]),
   (.bipush 18, (41, 2, 26), [], []),
   (.iload_n 3, (43, 1, 27), [], []),
   (.iadd, (44, 1, 28), [0], []),
   (.iaload, (45, 1, 29), [], []),
   (.aload_n 0, (46, 1, 30), [], []),
   (.getfield 9, (47, 3, 31), [2, 10, 1, 987], [1]),
   (.bipush 18, (50, 2, 32), [], [])],
  [(.iload 4, (52, 2, 33), [], []),
   (.iadd, (54, 1, 34), [0], []),
   (.iaload, (55, 1, 35), [], []),
   (.iconst 0, (56, 1, 36), [], []),
   (.invokevirtual 180, (57, 3, 37), [172, 3, 0, 10, 0, 1239, 1241, 49, 1242, 79], []),
   (.istore 5, (60, 2, 38), [], []),
   (.iload 5, (62, 2, 39), [], []),
   (.iload_n 2, (64, 1, 40), [], []),
   (.if_icmp .ge 13, (65, 3, 41), [47], []),
   (.bipush 10, (68, 2, 42), [], []),
   (.iload_n 3, (70, 1, 43), [], []),
   (.imul, (71, 1, 44), [0], []),
   (.iload 4, (72, 2, 45), [], []),
   (.iadd, (74, 1, 46), [0], []),
   (.goto 4, (75, 3, 47), [48], []),
   (.iload_n 1, (78, 1, 48), [], [])],
  [(.istore_n 1, (79, 1, 49), [], []),
   (.iload 5, (80, 2, 50), [], []),
   (.iload_n 2, (82, 1, 51), [], []),
   (.if_icmp .ge 8, (83, 3, 52), [54], []),
   (.iload 5, (86, 2, 53), [], []),
   (.goto 4, (88, 3, 54), [55], []),
   (.iload_n 2, (91, 1, 55), [], []),
   (.istore_n 2, (92, 1, 56), [], []),
   (.iinc 4 1, (93, 3, 57), [], []),
   (.goto (-72), (96, 3, 58), [16], []),
   (.iinc 3 1, (99, 3, 59), [], []),
   (.goto (-94), (102, 3, 60), [6], []),
   (.iload_n 1, (105, 1, 61), [], []),
   (.ireturn, (106, 1, 62), [0], [])]]
def rw_M_room : List (List xq_Row) := [
  [(.aload_n 0, (0, 1, 1), [], []),
   (.iload_n 1, (1, 1, 2), [], []),
   (.invokevirtual 163, (2, 3, 3), [138, 1, 0, 10, 0, 1184, 1186, 39, 1187, 79], []),
   (.ifCond .ne 5, (5, 3, 4), [6], []),
   (.iconst (-1), (8, 1, 5), [], []),
   (.ireturn, (9, 1, 6), [0], []),
   (.aload_n 0, (10, 1, 7), [], []),
   (.iload_n 1, (11, 1, 8), [], []),
   (.invokevirtual 223, (12, 3, 9), [188, 1, 0, 10, 0, 1284, 1286, 51, 1287, 79], []),
   (.iconst 0, (15, 1, 10), [], []),
   (.istore_n 2, (16, 1, 11), [], []),
   (.iconst 0, (17, 1, 12), [], []),
   (.istore_n 3, (18, 1, 13), [], []),
   (.iload_n 3, (19, 1, 14), [], []),
   (.sipush 584, (20, 3, 15), [], []),
   (.if_icmp .ge 31, (23, 3, 16), [32], [])],
  [(.iload_n 2, (26, 1, 17), [], []),
   (.aload_n 0, (27, 1, 18), [], []),
   (.aload_n 0, (28, 1, 19), [], []),
   (.getfield 46, (29, 3, 20), [2, 10, 18, 1004], [18]),
   (.iload_n 3, (32, 1, 21), [], []),
   (.iaload, (33, 1, 22), [], []),
   (.invokevirtual 157, (34, 3, 23), [161, 1, 0, 10, 0, 1156, 1158, 37, 1159, 79], []),
   (.iconst (-1), (37, 1, 24), [], []),
   (.if_icmp .ne 7, (38, 3, 25), [27], []),
   (.iconst 0, (41, 1, 26), [], []),
   (.goto 4, (42, 3, 27), [28], []),
   (.iconst 1, (45, 1, 28), [], []),
   (.iadd, (46, 1, 29), [0], []),
   (.istore_n 2, (47, 1, 30), [], []),
   (.iinc 3 1, (48, 3, 31), [], []),
   (.goto (-32), (51, 3, 32), [13], [])],
  [(.iload_n 2, (54, 1, 33), [], []),
   (.ireturn, (55, 1, 34), [0], [])]]
def rw_M_saved : List (List xq_Row) := [
  [(.aload_n 0, (0, 1, 1), [], []),
   (.iload_n 1, (1, 1, 2), [], []),
   (.invokevirtual 163, (2, 3, 3), [138, 1, 0, 10, 0, 1184, 1186, 39, 1187, 79], []),
   (.ifCond .ne 5, (5, 3, 4), [6], []),
   (.iconst (-1), (8, 1, 5), [], []),
   (.ireturn, (9, 1, 6), [0], []),
   (.aload_n 0, (10, 1, 7), [], []),
   (.iload_n 1, (11, 1, 8), [], []),
   (.invokevirtual 223, (12, 3, 9), [188, 1, 0, 10, 0, 1284, 1286, 51, 1287, 79], []),
   (.iconst 0, (15, 1, 10), [], []),
   (.istore_n 2, (16, 1, 11), [], []),
   (.iconst 0, (17, 1, 12), [], []),
   (.istore_n 3, (18, 1, 13), [], []),
   (.iload_n 3, (19, 1, 14), [], []),
   (.aload_n 0, (20, 1, 15), [], []),
   (.getfield 9, (21, 3, 16), [2, 10, 1, 987], [1])],
  [(.bipush 11, (24, 2, 17), [], []),
   (.iaload, (26, 1, 18), [], []),
   (.if_icmp .ge 58, (27, 3, 19), [51], []),
   (.aload_n 0, (30, 1, 20), [], []),
   (.iload_n 1, (31, 1, 21), [], []),
   (.aload_n 0, (32, 1, 22), [], []),
   (.getfield 9, (33, 3, 23), [2, 10, 1, 987], [1]),
   (.bipush 18, (36, 2, 24), [], []),
   (.iload_n 3, (38, 1, 25), [], []),
   (.iadd, (39, 1, 26), [0], []),
   (.iaload, (40, 1, 27), [], []),
   (.invokevirtual 226, (41, 3, 28), [189, 2, 0, 10, 0, 1288, 1290, 52, 1291, 79], []),
   (.aload_n 0, (44, 1, 29), [], []),
   (.getfield 9, (45, 3, 30), [2, 10, 1, 987], [1]),
   (.bipush 18, (48, 2, 31), [], []),
   (.iload_n 3, (50, 1, 32), [], [])],
  [(.iadd, (51, 1, 33), [0], []),
   (.iaload, (52, 1, 34), [], []),
   (.invokestatic 67, (53, 3, 35), [141, 1, 0, 0, 1, 1204, 1205, 0, 1206, 79], []),
   (.iconst 1, (56, 1, 36), [], []),
   (.iadd, (57, 1, 37), [0], []),
   (.aload_n 0, (58, 1, 38), [], []),
   (.getfield 214, (59, 3, 39), [0, 10, 19, 1005], [19]),
   (.isub, (62, 1, 40), [0], []),
   (.istore 4, (63, 2, 41), [], []),
   (.iload_n 2, (65, 1, 42), [], []),
   (.iload 4, (66, 2, 43), [], []),
   (.ifCond .le 8, (68, 3, 44), [46], []),
   (.iload 4, (71, 2, 45), [], []),
   (.goto 4, (73, 3, 46), [47], []),
   (.iconst 0, (76, 1, 47), [], []),
   (.iadd, (77, 1, 48), [0], [])],
  [(.istore_n 2, (78, 1, 49), [], []),
   (.iinc 3 1, (79, 3, 50), [], []),
   (.goto (-63), (82, 3, 51), [13], []),
   (.iload_n 2, (85, 1, 52), [], []),
   (.ireturn, (86, 1, 53), [0], [])]]
def rw_M_book : List (List xq_Row) := [
  [(.iload_n 1, (0, 1, 1), [], []),
   (.iconst (-1), (1, 1, 2), [], []),
   (.if_icmp .ne 13, (2, 3, 3), [10], []),
   (.aload_n 0, (5, 1, 4), [], []),
   (.getfield 9, (6, 3, 5), [2, 10, 1, 987], [1]),
   (.bipush 14, (9, 2, 6), [], []),
   (.iconst 0, (11, 1, 7), [], []),
   (.iastore, (12, 1, 8), [], []),
   (.iconst 0, (13, 1, 9), [], []),
   (.ireturn, (14, 1, 10), [0], []),
   (.aload_n 0, (15, 1, 11), [], []),
   (.iload_n 1, (16, 1, 12), [], []),
   (.invokevirtual 163, (17, 3, 13), [138, 1, 0, 10, 0, 1184, 1186, 39, 1187, 79], []),
   (.ifCond .ne 5, (20, 3, 14), [16], []),
   (.iconst (-1), (23, 1, 15), [], []),
   (.ireturn, (24, 1, 16), [0], [])],
  [(.iload_n 2, (25, 1, 17), [], []),
   (.invokestatic 153, (26, 3, 18), [140, 1, 0, 0, 1, 1152, 1153, 0, 1154, 79], []),
   (.ifCond .eq 10, (29, 3, 19), [22], []),
   (.iload_n 3, (32, 1, 20), [], []),
   (.invokestatic 153, (33, 3, 21), [140, 1, 0, 0, 1, 1152, 1153, 0, 1154, 79], []),
   (.ifCond .ne 6, (36, 3, 22), [24], []),
   (.bipush (-2), (39, 2, 23), [], []),
   (.ireturn, (41, 1, 24), [0], []),
   (.aload_n 0, (42, 1, 25), [], []),
   (.getfield 9, (43, 3, 26), [2, 10, 1, 987], [1]),
   (.bipush 14, (46, 2, 27), [], []),
   (.iaload, (48, 1, 28), [], []),
   (.bipush 8, (49, 2, 29), [], []),
   (.if_icmp .ne 6, (51, 3, 30), [32], []),
   (.bipush (-4), (54, 2, 31), [], []),
   (.ireturn, (56, 1, 32), [0], [])],
  [(.aload_n 0, (57, 1, 33), [], []),
   (.getfield 9, (58, 3, 34), [2, 10, 1, 987], [1]),
   (.bipush 110, (61, 2, 35), [], []),
   (.aload_n 0, (63, 1, 36), [], []),
   (.getfield 9, (64, 3, 37), [2, 10, 1, 987], [1]),
   (.bipush 14, (67, 2, 38), [], []),
   (.iaload, (69, 1, 39), [], []),
   (.iadd, (70, 1, 40), [0], []),
   (.iload_n 1, (71, 1, 41), [], []),
   (.iastore, (72, 1, 42), [], []),
   (.aload_n 0, (73, 1, 43), [], []),
   (.getfield 9, (74, 3, 44), [2, 10, 1, 987], [1]),
   (.bipush 118, (77, 2, 45), [], []),
   (.aload_n 0, (79, 1, 46), [], []),
   (.getfield 9, (80, 3, 47), [2, 10, 1, 987], [1]),
   (.bipush 14, (83, 2, 48), [], [])],
  [(.iaload, (85, 1, 49), [], []),
   (.iadd, (86, 1, 50), [0], []),
   (.iload_n 2, (87, 1, 51), [], []),
   (.iastore, (88, 1, 52), [], []),
   (.aload_n 0, (89, 1, 53), [], []),
   (.getfield 9, (90, 3, 54), [2, 10, 1, 987], [1]),
   (.bipush 126, (93, 2, 55), [], []),
   (.aload_n 0, (95, 1, 56), [], []),
   (.getfield 9, (96, 3, 57), [2, 10, 1, 987], [1]),
   (.bipush 14, (99, 2, 58), [], []),
   (.iaload, (101, 1, 59), [], []),
   (.iadd, (102, 1, 60), [0], []),
   (.iload_n 3, (103, 1, 61), [], []),
   (.iastore, (104, 1, 62), [], []),
   (.aload_n 0, (105, 1, 63), [], []),
   (.getfield 9, (106, 3, 64), [2, 10, 1, 987], [1])],
  [(.bipush 14, (109, 2, 65), [], []),
   (.dup2, (111, 1, 66), [], []),
   (.iaload, (112, 1, 67), [], []),
   (.iconst 1, (113, 1, 68), [], []),
   (.iadd, (114, 1, 69), [0], []),
   (.iastore, (115, 1, 70), [], []),
   (.aload_n 0, (116, 1, 71), [], []),
   (.getfield 9, (117, 3, 72), [2, 10, 1, 987], [1]),
   (.bipush 14, (120, 2, 73), [], []),
   (.iaload, (122, 1, 74), [], []),
   (.ireturn, (123, 1, 75), [0], [])]]
def rw_M_looked : List (List xq_Row) := [
  [(.iconst 0, (0, 1, 1), [], []),
   (.istore_n 1, (1, 1, 2), [], []),
   (.iload_n 1, (2, 1, 3), [], []),
   (.aload_n 0, (3, 1, 4), [], []),
   (.getfield 9, (4, 3, 5), [2, 10, 1, 987], [1]),
   (.bipush 14, (7, 2, 6), [], []),
   (.iaload, (9, 1, 7), [], []),
   (.if_icmp .ge 45, (10, 3, 8), [33], []),
   (.aload_n 0, (13, 1, 9), [], []),
   (.aload_n 0, (14, 1, 10), [], []),
   (.getfield 9, (15, 3, 11), [2, 10, 1, 987], [1]),
   (.bipush 110, (18, 2, 12), [], []),
   (.iload_n 1, (20, 1, 13), [], []),
   (.iadd, (21, 1, 14), [0], []),
   (.iaload, (22, 1, 15), [], []),
   (.aload_n 0, (23, 1, 16), [], [])],
  [(.getfield 9, (24, 3, 17), [2, 10, 1, 987], [1]),
   (.bipush 118, (27, 2, 18), [], []),
   (.iload_n 1, (29, 1, 19), [], []),
   (.iadd, (30, 1, 20), [0], []),
   (.iaload, (31, 1, 21), [], []),
   (.invokevirtual 205, (32, 3, 22), [178, 2, 0, 10, 0, 1200, 1202, 41, 1203, 79], []),
   (.aload_n 0, (35, 1, 23), [], []),
   (.getfield 9, (36, 3, 24), [2, 10, 1, 987], [1]),
   (.bipush 126, (39, 2, 25), [], []),
   (.iload_n 1, (41, 1, 26), [], []),
   (.iadd, (42, 1, 27), [0], []),
   (.iaload, (43, 1, 28), [], []),
   (.if_icmp .eq 5, (44, 3, 29), [31], []),
   (.iload_n 1, (47, 1, 30), [], []),
   (.ireturn, (48, 1, 31), [0], []),
   (.iinc 1 1, (49, 3, 32), [], [])],
  [(.goto (-50), (52, 3, 33), [2], []),
   (.bipush (-5), (55, 2, 34), [], []),
   (.ireturn, (57, 1, 35), [0], [])]]
def rw_M_ranBody : List (List xq_Row) := [
  [(.aload_n 0, (0, 1, 1), [], []),
   (.getfield 269, (1, 3, 2), [0, 10, 27, 1013], [27]),
   (.bipush 20, (4, 2, 3), [], []),
   (.if_icmp .ge 13, (6, 3, 4), [10], []),
   (.aload_n 0, (9, 1, 5), [], []),
   (.getfield 55, (10, 3, 6), [2, 10, 26, 1012], [26]),
   (.aload_n 0, (13, 1, 7), [], []),
   (.getfield 269, (14, 3, 8), [0, 10, 27, 1013], [27]),
   (.iload_n 1, (17, 1, 9), [], []),
   (.iastore, (18, 1, 10), [], []),
   (.aload_n 0, (19, 1, 11), [], []),
   (.dup, (20, 1, 12), [], []),
   (.getfield 269, (21, 3, 13), [0, 10, 27, 1013], [27]),
   (.iconst 1, (24, 1, 14), [], []),
   (.iadd, (25, 1, 15), [0], []),
   (.putfield 269, (26, 3, 16), [0, 10, 27, 1013, 0], [27])],
  [(.return_, (29, 1, 17), [], [])]]
def rw_M_isUnder : List (List xq_Row) := [
  [(.iload_n 1, (0, 1, 1), [], []),
   (.ifCond .eq 24, (1, 3, 2), [15], []),
   (.iload_n 1, (4, 1, 3), [], []),
   (.iload_n 0, (5, 1, 4), [], []),
   (.if_icmp .eq 19, (6, 3, 5), [15], []),
   (.iload_n 1, (9, 1, 6), [], []),
   (.ifCond .le 19, (10, 3, 7), [17], []),
   (.iload_n 1, (13, 1, 8), [], []),
   (.iconst 4, (14, 1, 9), [], []),
   (.if_icmp .ge 14, (15, 3, 10), [17], []),
   (.iload_n 0, (18, 1, 11), [], []),
   (.iload_n 1, (19, 1, 12), [], []),
   (.iconst 3, (20, 1, 13), [], []),
   (.iadd, (21, 1, 14), [0], []),
   (.if_icmp .ne 7, (22, 3, 15), [17], []),
   (.iconst 1, (25, 1, 16), [], [])],
  [(.goto 4, (26, 3, 17), [18], []),
   (.iconst 0, (29, 1, 18), [], []),
   (.ireturn, (30, 1, 19), [1], [])]]
def rw_M_plainMends : List (List xq_Row) := [
  [(.aload_n 0, (0, 1, 1), [], []),
   (.iconst 1, (1, 1, 2), [], []),
   (.invokevirtual 272, (2, 3, 3), [216, 1, 0, 10, 0, 1410, 1412, 62, 1413, 79], []),
   (.iload_n 1, (5, 1, 4), [], []),
   (.aload_n 0, (6, 1, 5), [], []),
   (.getfield 275, (7, 3, 6), [0, 10, 29, 1015], [29]),
   (.iadd, (10, 1, 7), [1], []),
   (.ireturn, (11, 1, 8), [0], [])]]
def rw_M_mendsActs : List (List xq_Row) := [
  [(.aload_n 0, (0, 1, 1), [], []),
   (.getfield 278, (1, 3, 2), [0, 10, 28, 1014], [28]),
   (.iconst 1, (4, 1, 3), [], []),
   (.invokestatic 281, (5, 3, 4), [217, 2, 0, 0, 1, 1407, 1408, 0, 1409, 79], []),
   (.ifCond .eq 17, (8, 3, 5), [14], []),
   (.aload_n 0, (11, 1, 6), [], []),
   (.bipush 11, (12, 2, 7), [], []),
   (.invokevirtual 272, (14, 3, 8), [216, 1, 0, 10, 0, 1410, 1412, 62, 1413, 79], []),
   (.aload_n 0, (17, 1, 9), [], []),
   (.iload_n 1, (18, 1, 10), [], []),
   (.iconst 3, (19, 1, 11), [], []),
   (.imul, (20, 1, 12), [1], []),
   (.invokevirtual 284, (21, 3, 13), [218, 1, 0, 10, 0, 1414, 1416, 63, 1417, 79], []),
   (.ireturn, (24, 1, 14), [0], []),
   (.aload_n 0, (25, 1, 15), [], []),
   (.getfield 278, (26, 3, 16), [0, 10, 28, 1014], [28])],
  [(.iconst 5, (29, 1, 17), [], []),
   (.if_icmp .ne 20, (30, 3, 18), [28], []),
   (.aload_n 0, (33, 1, 19), [], []),
   (.bipush 51, (34, 2, 20), [], []),
   (.invokevirtual 272, (36, 3, 21), [216, 1, 0, 10, 0, 1410, 1412, 62, 1413, 79], []),
   (.aload_n 0, (39, 1, 22), [], []),
   (.iload_n 1, (40, 1, 23), [], []),
   (.invokevirtual 284, (41, 3, 24), [218, 1, 0, 10, 0, 1414, 1416, 63, 1417, 79], []),
   (.aload_n 0, (44, 1, 25), [], []),
   (.getfield 275, (45, 3, 26), [0, 10, 29, 1015], [29]),
   (.ixor, (48, 1, 27), [], []),
   (.ireturn, (49, 1, 28), [0], []),
   (.aload_n 0, (50, 1, 29), [], []),
   (.iload_n 1, (51, 1, 30), [], []),
   (.invokevirtual 284, (52, 3, 31), [218, 1, 0, 10, 0, 1414, 1416, 63, 1417, 79], []),
   (.ireturn, (55, 1, 32), [0], [])]]
def rw_M_plainLeaves : List (List xq_Row) := [
  [(.aload_n 0, (0, 1, 1), [], []),
   (.iconst 2, (1, 1, 2), [], []),
   (.invokevirtual 272, (2, 3, 3), [216, 1, 0, 10, 0, 1410, 1412, 62, 1413, 79], []),
   (.aload_n 0, (5, 1, 4), [], []),
   (.iload_n 1, (6, 1, 5), [], []),
   (.invokevirtual 287, (7, 3, 6), [219, 1, 0, 10, 0, 1403, 1405, 61, 1406, 79], []),
   (.aload_n 0, (10, 1, 7), [], []),
   (.getfield 290, (11, 3, 8), [0, 10, 30, 1016], [30]),
   (.isub, (14, 1, 9), [1], []),
   (.ireturn, (15, 1, 10), [0], [])]]
def rw_M_leavesActs : List (List xq_Row) := [
  [(.aload_n 0, (0, 1, 1), [], []),
   (.getfield 278, (1, 3, 2), [0, 10, 28, 1014], [28]),
   (.iconst 2, (4, 1, 3), [], []),
   (.invokestatic 281, (5, 3, 4), [217, 2, 0, 0, 1, 1407, 1408, 0, 1409, 79], []),
   (.ifCond .eq 16, (8, 3, 5), [13], []),
   (.aload_n 0, (11, 1, 6), [], []),
   (.bipush 21, (12, 2, 7), [], []),
   (.invokevirtual 272, (14, 3, 8), [216, 1, 0, 10, 0, 1410, 1412, 62, 1413, 79], []),
   (.aload_n 0, (17, 1, 9), [], []),
   (.iload_n 1, (18, 1, 10), [], []),
   (.invokevirtual 293, (19, 3, 11), [220, 1, 0, 10, 0, 1422, 1424, 65, 1425, 79], []),
   (.ineg, (22, 1, 12), [1], []),
   (.ireturn, (23, 1, 13), [0], []),
   (.aload_n 0, (24, 1, 14), [], []),
   (.getfield 278, (25, 3, 15), [0, 10, 28, 1014], [28]),
   (.bipush 6, (28, 2, 16), [], [])],
  [(.if_icmp .ne 20, (30, 3, 17), [27], []),
   (.aload_n 0, (33, 1, 18), [], []),
   (.bipush 61, (34, 2, 19), [], []),
   (.invokevirtual 272, (36, 3, 20), [216, 1, 0, 10, 0, 1410, 1412, 62, 1413, 79], []),
   (.aload_n 0, (39, 1, 21), [], []),
   (.iload_n 1, (40, 1, 22), [], []),
   (.invokevirtual 293, (41, 3, 23), [220, 1, 0, 10, 0, 1422, 1424, 65, 1425, 79], []),
   (.aload_n 0, (44, 1, 24), [], []),
   (.getfield 290, (45, 3, 25), [0, 10, 30, 1016], [30]),
   (.iadd, (48, 1, 26), [1], []),
   (.ireturn, (49, 1, 27), [0], []),
   (.aload_n 0, (50, 1, 28), [], []),
   (.iload_n 1, (51, 1, 29), [], []),
   (.invokevirtual 293, (52, 3, 30), [220, 1, 0, 10, 0, 1422, 1424, 65, 1425, 79], []),
   (.ireturn, (55, 1, 31), [0], [])]]
def rw_M_plainTells : List (List xq_Row) := [
  [(.aload_n 0, (0, 1, 1), [], []),
   (.iconst 3, (1, 1, 2), [], []),
   (.invokevirtual 272, (2, 3, 3), [216, 1, 0, 10, 0, 1410, 1412, 62, 1413, 79], []),
   (.aload_n 0, (5, 1, 4), [], []),
   (.iload_n 1, (6, 1, 5), [], []),
   (.invokevirtual 296, (7, 3, 6), [221, 1, 0, 10, 0, 1418, 1420, 64, 1421, 79], []),
   (.iconst 2, (10, 1, 7), [], []),
   (.imul, (11, 1, 8), [1], []),
   (.ireturn, (12, 1, 9), [0], [])]]
def rw_M_tellsActs : List (List xq_Row) := [
  [(.aload_n 0, (0, 1, 1), [], []),
   (.getfield 278, (1, 3, 2), [0, 10, 28, 1014], [28]),
   (.iconst 3, (4, 1, 3), [], []),
   (.invokestatic 281, (5, 3, 4), [217, 2, 0, 0, 1, 1407, 1408, 0, 1409, 79], []),
   (.ifCond .eq 18, (8, 3, 5), [14], []),
   (.aload_n 0, (11, 1, 6), [], []),
   (.bipush 31, (12, 2, 7), [], []),
   (.invokevirtual 272, (14, 3, 8), [216, 1, 0, 10, 0, 1410, 1412, 62, 1413, 79], []),
   (.aload_n 0, (17, 1, 9), [], []),
   (.iload_n 1, (18, 1, 10), [], []),
   (.invokevirtual 299, (19, 3, 11), [222, 1, 0, 10, 0, 1430, 1432, 67, 1433, 79], []),
   (.bipush 7, (22, 2, 12), [], []),
   (.ixor, (24, 1, 13), [], []),
   (.ireturn, (25, 1, 14), [0], []),
   (.aload_n 0, (26, 1, 15), [], []),
   (.getfield 278, (27, 3, 16), [0, 10, 28, 1014], [28])],
  [(.iconst 4, (30, 1, 17), [], []),
   (.if_icmp .ne 25, (31, 3, 18), [33], []),
   (.aload_n 0, (34, 1, 19), [], []),
   (.bipush 41, (35, 2, 20), [], []),
   (.invokevirtual 272, (37, 3, 21), [216, 1, 0, 10, 0, 1410, 1412, 62, 1413, 79], []),
   (.aload_n 0, (40, 1, 22), [], []),
   (.iload_n 1, (41, 1, 23), [], []),
   (.iconst 1, (42, 1, 24), [], []),
   (.isub, (43, 1, 25), [1], []),
   (.invokevirtual 299, (44, 3, 26), [222, 1, 0, 10, 0, 1430, 1432, 67, 1433, 79], []),
   (.istore_n 2, (47, 1, 27), [], []),
   (.iload_n 2, (48, 1, 28), [], []),
   (.aload_n 0, (49, 1, 29), [], []),
   (.iconst 2, (50, 1, 30), [], []),
   (.invokevirtual 287, (51, 3, 31), [219, 1, 0, 10, 0, 1403, 1405, 61, 1406, 79], []),
   (.iadd, (54, 1, 32), [1], [])],
  [(.ireturn, (55, 1, 33), [0], []),
   (.aload_n 0, (56, 1, 34), [], []),
   (.iload_n 1, (57, 1, 35), [], []),
   (.invokevirtual 299, (58, 3, 36), [222, 1, 0, 10, 0, 1430, 1432, 67, 1433, 79], []),
   (.ireturn, (61, 1, 37), [0], [])]]
def rw_M_act : List (List xq_Row) := [
  [(.aload_n 0, (0, 1, 1), [], []),
   (.iconst 0, (1, 1, 2), [], []),
   (.putfield 269, (2, 3, 3), [0, 10, 27, 1013, 0], [27]),
   (.aload_n 0, (5, 1, 4), [], []),
   (.iload_n 1, (6, 1, 5), [], []),
   (.invokevirtual 163, (7, 3, 6), [138, 1, 0, 10, 0, 1184, 1186, 39, 1187, 79], []),
   (.ifCond .eq 12, (10, 3, 7), [12], []),
   (.iload_n 2, (13, 1, 8), [], []),
   (.iconst 0, (14, 1, 9), [], []),
   (.iconst 2, (15, 1, 10), [], []),
   (.invokestatic 62, (16, 3, 11), [137, 3, 0, 0, 1, 1085, 1086, 0, 1087, 79], []),
   (.ifCond .ne 5, (19, 3, 12), [14], []),
   (.iconst 0, (22, 1, 13), [], []),
   (.ireturn, (23, 1, 14), [0], []),
   (.aload_n 0, (24, 1, 15), [], []),
   (.aload_n 0, (25, 1, 16), [], [])],
  [(.getfield 9, (26, 3, 17), [2, 10, 1, 987], [1]),
   (.bipush 34, (29, 2, 18), [], []),
   (.iload_n 1, (31, 1, 19), [], []),
   (.iadd, (32, 1, 20), [0], []),
   (.iaload, (33, 1, 21), [], []),
   (.putfield 278, (34, 3, 22), [0, 10, 28, 1014, 0], [28]),
   (.aload_n 0, (37, 1, 23), [], []),
   (.iload_n 1, (38, 1, 24), [], []),
   (.putfield 275, (39, 3, 25), [0, 10, 29, 1015, 0], [29]),
   (.aload_n 0, (42, 1, 26), [], []),
   (.aload_n 0, (43, 1, 27), [], []),
   (.getfield 9, (44, 3, 28), [2, 10, 1, 987], [1]),
   (.bipush 39, (47, 2, 29), [], []),
   (.iload_n 1, (49, 1, 30), [], []),
   (.iadd, (50, 1, 31), [0], []),
   (.iaload, (51, 1, 32), [], [])],
  [(.putfield 290, (52, 3, 33), [0, 10, 30, 1016, 0], [30]),
   (.iload_n 2, (55, 1, 34), [], []),
   (.ifCond .ne 11, (56, 3, 35), [39], []),
   (.aload_n 0, (59, 1, 36), [], []),
   (.iload_n 3, (60, 1, 37), [], []),
   (.invokevirtual 287, (61, 3, 38), [219, 1, 0, 10, 0, 1403, 1405, 61, 1406, 79], []),
   (.goto 21, (64, 3, 39), [49], []),
   (.iload_n 2, (67, 1, 40), [], []),
   (.iconst 1, (68, 1, 41), [], []),
   (.if_icmp .ne 11, (69, 3, 42), [46], []),
   (.aload_n 0, (72, 1, 43), [], []),
   (.iload_n 3, (73, 1, 44), [], []),
   (.invokevirtual 296, (74, 3, 45), [221, 1, 0, 10, 0, 1418, 1420, 64, 1421, 79], []),
   (.goto 8, (77, 3, 46), [49], []),
   (.aload_n 0, (80, 1, 47), [], []),
   (.iload_n 3, (81, 1, 48), [], [])],
  [(.invokevirtual 302, (82, 3, 49), [223, 1, 0, 10, 0, 1426, 1428, 66, 1429, 79], []),
   (.ireturn, (85, 1, 50), [0], [])]]
def rw_M_trace : List (List xq_Row) := [
  [(.iload_n 1, (0, 1, 1), [], []),
   (.iconst 0, (1, 1, 2), [], []),
   (.aload_n 0, (2, 1, 3), [], []),
   (.getfield 269, (3, 3, 4), [0, 10, 27, 1013], [27]),
   (.bipush 20, (6, 2, 5), [], []),
   (.if_icmp .ge 10, (8, 3, 6), [9], []),
   (.aload_n 0, (11, 1, 7), [], []),
   (.getfield 269, (12, 3, 8), [0, 10, 27, 1013], [27]),
   (.goto 5, (15, 3, 9), [10], []),
   (.bipush 20, (18, 2, 10), [], []),
   (.iconst 1, (20, 1, 11), [], []),
   (.isub, (21, 1, 12), [0], []),
   (.invokestatic 62, (22, 3, 13), [137, 3, 0, 0, 1, 1085, 1086, 0, 1087, 79], []),
   (.ifCond .eq 12, (25, 3, 14), [19], []),
   (.aload_n 0, (28, 1, 15), [], []),
   (.getfield 55, (29, 3, 16), [2, 10, 26, 1012], [26])],
  [(.iload_n 1, (32, 1, 17), [], []),
   (.iaload, (33, 1, 18), [], []),
   (.goto 4, (34, 3, 19), [20], []),
   (.iconst (-1), (37, 1, 20), [], []),
   (.ireturn, (38, 1, 21), [0], [])]]
def rw_M_as : List (List xq_Row) := [
  [(.aload_n 0, (0, 1, 1), [], []),
   (.iload_n 1, (1, 1, 2), [], []),
   (.invokevirtual 163, (2, 3, 3), [138, 1, 0, 10, 0, 1184, 1186, 39, 1187, 79], []),
   (.ifCond .eq 13, (5, 3, 4), [9], []),
   (.iload_n 2, (8, 1, 5), [], []),
   (.iconst 0, (9, 1, 6), [], []),
   (.bipush 6, (10, 2, 7), [], []),
   (.invokestatic 62, (12, 3, 8), [137, 3, 0, 0, 1, 1085, 1086, 0, 1087, 79], []),
   (.ifCond .ne 5, (15, 3, 9), [11], []),
   (.iconst (-1), (18, 1, 10), [], []),
   (.ireturn, (19, 1, 11), [0], []),
   (.aload_n 0, (20, 1, 12), [], []),
   (.getfield 9, (21, 3, 13), [2, 10, 1, 987], [1]),
   (.bipush 34, (24, 2, 14), [], []),
   (.iload_n 1, (26, 1, 15), [], []),
   (.iadd, (27, 1, 16), [0], [])],
  [(.iaload, (28, 1, 17), [], []),
   (.iload_n 2, (29, 1, 18), [], []),
   (.invokestatic 281, (30, 3, 19), [217, 2, 0, 0, 1, 1407, 1408, 0, 1409, 79], []),
   (.ifCond .eq 15, (33, 3, 20), [27], []),
   (.aload_n 0, (36, 1, 21), [], []),
   (.getfield 9, (37, 3, 22), [2, 10, 1, 987], [1]),
   (.bipush 39, (40, 2, 23), [], []),
   (.iload_n 1, (42, 1, 24), [], []),
   (.iadd, (43, 1, 25), [0], []),
   (.iaload, (44, 1, 26), [], []),
   (.goto 5, (45, 3, 27), [28], []),
   (.bipush (-6), (48, 2, 28), [], []),
   (.ireturn, (50, 1, 29), [0], [])]]
def rw_M_image : List (List xq_Row) := [
  [(.iconst 0, (0, 1, 1), [], []),
   (.istore_n 1, (1, 1, 2), [], []),
   (.iload_n 1, (2, 1, 3), [], []),
   (.sipush 949, (3, 3, 4), [], []),
   (.if_icmp .ge 21, (6, 3, 5), [15], []),
   (.aload_n 0, (9, 1, 6), [], []),
   (.getfield 15, (10, 3, 7), [2, 10, 2, 988], [2]),
   (.iload_n 1, (13, 1, 8), [], []),
   (.aload_n 0, (14, 1, 9), [], []),
   (.getfield 9, (15, 3, 10), [2, 10, 1, 987], [1]),
   (.iload_n 1, (18, 1, 11), [], []),
   (.iaload, (19, 1, 12), [], []),
   (.iastore, (20, 1, 13), [], []),
   (.iinc 1 1, (21, 3, 14), [], []),
   (.goto (-22), (24, 3, 15), [2], []),
   (.aload_n 0, (27, 1, 16), [], [])],
  [(.iconst 1, (28, 1, 17), [], []),
   (.putfield 305, (29, 3, 18), [1, 10, 4, 990, 0], [4]),
   (.aload_n 0, (32, 1, 19), [], []),
   (.getfield 9, (33, 3, 20), [2, 10, 1, 987], [1]),
   (.bipush 10, (36, 2, 21), [], []),
   (.iaload, (38, 1, 22), [], []),
   (.ireturn, (39, 1, 23), [0], [])]]
def rw_M_undo : List (List xq_Row) := [
  [(.aload_n 0, (0, 1, 1), [], []),
   (.getfield 305, (1, 3, 2), [1, 10, 4, 990], [4]),
   (.ifCond .ne 6, (4, 3, 3), [5], []),
   (.bipush (-3), (7, 2, 4), [], []),
   (.ireturn, (9, 1, 5), [0], []),
   (.iconst 0, (10, 1, 6), [], []),
   (.istore_n 1, (11, 1, 7), [], []),
   (.iload_n 1, (12, 1, 8), [], []),
   (.sipush 949, (13, 3, 9), [], []),
   (.if_icmp .ge 21, (16, 3, 10), [20], []),
   (.aload_n 0, (19, 1, 11), [], []),
   (.getfield 9, (20, 3, 12), [2, 10, 1, 987], [1]),
   (.iload_n 1, (23, 1, 13), [], []),
   (.aload_n 0, (24, 1, 14), [], []),
   (.getfield 15, (25, 3, 15), [2, 10, 2, 988], [2]),
   (.iload_n 1, (28, 1, 16), [], [])],
  [(.iaload, (29, 1, 17), [], []),
   (.iastore, (30, 1, 18), [], []),
   (.iinc 1 1, (31, 3, 19), [], []),
   (.goto (-22), (34, 3, 20), [7], []),
   (.aload_n 0, (37, 1, 21), [], []),
   (.getfield 9, (38, 3, 22), [2, 10, 1, 987], [1]),
   (.bipush 10, (41, 2, 23), [], []),
   (.iaload, (43, 1, 24), [], []),
   (.ireturn, (44, 1, 25), [0], [])]]
def rw_M_count : List (List xq_Row) := [
  [(.iload_n 1, (0, 1, 1), [], []),
   (.bipush 6, (1, 2, 2), [], []),
   (.if_icmp .ne 10, (3, 3, 3), [6], []),
   (.aload_n 0, (6, 1, 4), [], []),
   (.getfield 269, (7, 3, 5), [0, 10, 27, 1013], [27]),
   (.goto 25, (10, 3, 6), [19], []),
   (.iload_n 1, (13, 1, 7), [], []),
   (.iconst 0, (14, 1, 8), [], []),
   (.iconst 5, (15, 1, 9), [], []),
   (.invokestatic 62, (16, 3, 10), [137, 3, 0, 0, 1, 1085, 1086, 0, 1087, 79], []),
   (.ifCond .eq 15, (19, 3, 11), [18], []),
   (.aload_n 0, (22, 1, 12), [], []),
   (.getfield 9, (23, 3, 13), [2, 10, 1, 987], [1]),
   (.bipush 10, (26, 2, 14), [], []),
   (.iload_n 1, (28, 1, 15), [], []),
   (.iadd, (29, 1, 16), [0], [])],
  [(.iaload, (30, 1, 17), [], []),
   (.goto 4, (31, 3, 18), [19], []),
   (.iconst (-1), (34, 1, 19), [], []),
   (.ireturn, (35, 1, 20), [0], [])]]
def rw_L_law_c0 : List xq_Row := [(.new 7, (0, 3, 1), [9, 87, 88, 69], []),
   (.dup, (3, 1, 2), [], []),
   (.invokespecial 9, (4, 3, 3), [79, 0, 63, 0, 4, 89, 90, 0, 91, 69], []),
   (.astore_n 1, (7, 1, 4), [], []),
   (.new 10, (8, 3, 5), [10, 981, 982, 79], []),
   (.dup, (11, 1, 6), [], []),
   (.invokespecial 12, (12, 3, 7), [136, 0, 15, 0, 4, 983, 984, 0, 985, 79], []),
   (.astore_n 2, (15, 1, 8), [], []),
   (.iconst 0, (16, 1, 9), [], []),
   (.istore_n 3, (17, 1, 10), [], []),
   (.iload_n 3, (18, 1, 11), [], []),
   (.aload_n 0, (19, 1, 12), [], []),
   (.arraylength, (20, 1, 13), [], []),
   (.iconst 5, (21, 1, 14), [], []),
   (.isub, (22, 1, 15), [0], []),
   (.if_icmp .gt 1399, (23, 3, 16), [984], [])]
def rw_L_law_c1 : List xq_Row := [(.aload_n 0, (26, 1, 17), [], []),
   (.iload_n 3, (27, 1, 18), [], []),
   (.iaload, (28, 1, 19), [], []),
   (.bipush 63, (29, 2, 20), [], []),
   (.iand, (31, 1, 21), [], []),
   (.tableswitch 1384 0 39 #[176, 199, 212, 245, 278, 311, 370, 403, 436, 479, 512, 525, 538, 561, 594, 647, 670, 713, 736, 779, 812, 845, 868, 901, 945, 979, 1022, 1055, 1088, 1121, 1134, 1157, 1180, 1223, 1236, 1279, 1302, 1335, 1348, 1361], (32, 176, 22), [982, 22, 39, 46, 73, 100, 127, 172, 199, 226, 263, 290, 297, 304, 321, 348, 395, 412, 449, 466, 503, 530, 557, 574, 601, 639, 667, 704, 731, 758, 785, 792, 809, 826, 863, 870, 907, 924, 951, 958, 965], [0, 1, 2, 3, 4, 5, 6, 7, 8, 9, 10, 11, 12, 13, 14, 15, 16, 17, 18, 19, 20, 21, 22, 23, 24, 25, 26, 27, 28, 29, 30, 31, 32, 33, 34, 35, 36, 37, 38, 39]),
   (.aload_n 1, (208, 1, 23), [], []),
   (.aload_n 0, (209, 1, 24), [], []),
   (.iload_n 3, (210, 1, 25), [], []),
   (.iconst 1, (211, 1, 26), [], []),
   (.iadd, (212, 1, 27), [0], []),
   (.iaload, (213, 1, 28), [], []),
   (.invokevirtual 13, (214, 3, 29), [80, 1, 0, 9, 0, 398, 399, 400, 401, 69], []),
   (.aload_n 2, (217, 1, 30), [], []),
   (.aload_n 0, (218, 1, 31), [], []),
   (.iload_n 3, (219, 1, 32), [], [])]
def rw_L_law_c2 : List xq_Row := [(.iconst 1, (220, 1, 33), [], []),
   (.iadd, (221, 1, 34), [0], []),
   (.iaload, (222, 1, 35), [], []),
   (.invokevirtual 17, (223, 3, 36), [145, 1, 0, 10, 0, 1081, 1082, 1083, 1084, 79], []),
   (.if_icmp .eq 1190, (226, 3, 37), [982], []),
   (.iconst 0, (229, 1, 38), [], []),
   (.ireturn, (230, 1, 39), [1], []),
   (.aload_n 1, (231, 1, 40), [], []),
   (.invokevirtual 18, (232, 3, 41), [81, 0, 0, 9, 0, 402, 403, 404, 405, 69], []),
   (.aload_n 2, (235, 1, 42), [], []),
   (.invokevirtual 22, (236, 3, 43), [158, 0, 0, 10, 0, 1088, 1089, 1090, 1091, 79], []),
   (.if_icmp .eq 1177, (239, 3, 44), [982], []),
   (.iconst 0, (242, 1, 45), [], []),
   (.ireturn, (243, 1, 46), [1], []),
   (.aload_n 1, (244, 1, 47), [], []),
   (.aload_n 0, (245, 1, 48), [], [])]
def rw_L_law_c3 : List xq_Row := [(.iload_n 3, (246, 1, 49), [], []),
   (.iconst 1, (247, 1, 50), [], []),
   (.iadd, (248, 1, 51), [0], []),
   (.iaload, (249, 1, 52), [], []),
   (.aload_n 0, (250, 1, 53), [], []),
   (.iload_n 3, (251, 1, 54), [], []),
   (.iconst 2, (252, 1, 55), [], []),
   (.iadd, (253, 1, 56), [0], []),
   (.iaload, (254, 1, 57), [], []),
   (.invokevirtual 23, (255, 3, 58), [82, 2, 0, 9, 0, 584, 585, 586, 587, 69], []),
   (.aload_n 2, (258, 1, 59), [], []),
   (.aload_n 0, (259, 1, 60), [], []),
   (.iload_n 3, (260, 1, 61), [], []),
   (.iconst 1, (261, 1, 62), [], []),
   (.iadd, (262, 1, 63), [0], []),
   (.iaload, (263, 1, 64), [], [])]
def rw_L_law_c4 : List xq_Row := [(.aload_n 0, (264, 1, 65), [], []),
   (.iload_n 3, (265, 1, 66), [], []),
   (.iconst 2, (266, 1, 67), [], []),
   (.iadd, (267, 1, 68), [0], []),
   (.iaload, (268, 1, 69), [], []),
   (.invokevirtual 27, (269, 3, 70), [162, 2, 0, 10, 0, 1148, 1149, 1150, 1151, 79], []),
   (.if_icmp .eq 1144, (272, 3, 71), [982], []),
   (.iconst 0, (275, 1, 72), [], []),
   (.ireturn, (276, 1, 73), [1], []),
   (.aload_n 1, (277, 1, 74), [], []),
   (.aload_n 0, (278, 1, 75), [], []),
   (.iload_n 3, (279, 1, 76), [], []),
   (.iconst 1, (280, 1, 77), [], []),
   (.iadd, (281, 1, 78), [0], []),
   (.iaload, (282, 1, 79), [], []),
   (.aload_n 0, (283, 1, 80), [], [])]
def rw_L_law_c5 : List xq_Row := [(.iload_n 3, (284, 1, 81), [], []),
   (.iconst 2, (285, 1, 82), [], []),
   (.iadd, (286, 1, 83), [0], []),
   (.iaload, (287, 1, 84), [], []),
   (.invokevirtual 28, (288, 3, 85), [83, 2, 0, 9, 0, 604, 605, 606, 607, 69], []),
   (.aload_n 2, (291, 1, 86), [], []),
   (.aload_n 0, (292, 1, 87), [], []),
   (.iload_n 3, (293, 1, 88), [], []),
   (.iconst 1, (294, 1, 89), [], []),
   (.iadd, (295, 1, 90), [0], []),
   (.iaload, (296, 1, 91), [], []),
   (.aload_n 0, (297, 1, 92), [], []),
   (.iload_n 3, (298, 1, 93), [], []),
   (.iconst 2, (299, 1, 94), [], []),
   (.iadd, (300, 1, 95), [0], []),
   (.iaload, (301, 1, 96), [], [])]
def rw_L_law_c6 : List xq_Row := [(.invokevirtual 31, (302, 3, 97), [163, 2, 0, 10, 0, 1160, 1161, 1162, 1163, 79], []),
   (.if_icmp .eq 1111, (305, 3, 98), [982], []),
   (.iconst 0, (308, 1, 99), [], []),
   (.ireturn, (309, 1, 100), [1], []),
   (.aload_n 1, (310, 1, 101), [], []),
   (.aload_n 0, (311, 1, 102), [], []),
   (.iload_n 3, (312, 1, 103), [], []),
   (.iconst 1, (313, 1, 104), [], []),
   (.iadd, (314, 1, 105), [0], []),
   (.iaload, (315, 1, 106), [], []),
   (.aload_n 0, (316, 1, 107), [], []),
   (.iload_n 3, (317, 1, 108), [], []),
   (.iconst 2, (318, 1, 109), [], []),
   (.iadd, (319, 1, 110), [0], []),
   (.iaload, (320, 1, 111), [], []),
   (.invokevirtual 32, (321, 3, 112), [84, 2, 0, 9, 0, 612, 613, 614, 615, 69], [])]
def rw_L_law_c7 : List xq_Row := [(.aload_n 2, (324, 1, 113), [], []),
   (.aload_n 0, (325, 1, 114), [], []),
   (.iload_n 3, (326, 1, 115), [], []),
   (.iconst 1, (327, 1, 116), [], []),
   (.iadd, (328, 1, 117), [0], []),
   (.iaload, (329, 1, 118), [], []),
   (.aload_n 0, (330, 1, 119), [], []),
   (.iload_n 3, (331, 1, 120), [], []),
   (.iconst 2, (332, 1, 121), [], []),
   (.iadd, (333, 1, 122), [0], []),
   (.iaload, (334, 1, 123), [], []),
   (.invokevirtual 35, (335, 3, 124), [164, 2, 0, 10, 0, 1168, 1169, 1170, 1171, 79], []),
   (.if_icmp .eq 1078, (338, 3, 125), [982], []),
   (.iconst 0, (341, 1, 126), [], []),
   (.ireturn, (342, 1, 127), [1], []),
   (.aload_n 1, (343, 1, 128), [], [])]
def rw_L_law_c8 : List xq_Row := [(.aload_n 0, (344, 1, 129), [], []),
   (.iload_n 3, (345, 1, 130), [], []),
   (.iconst 1, (346, 1, 131), [], []),
   (.iadd, (347, 1, 132), [0], []),
   (.iaload, (348, 1, 133), [], []),
   (.aload_n 0, (349, 1, 134), [], []),
   (.iload_n 3, (350, 1, 135), [], []),
   (.iconst 2, (351, 1, 136), [], []),
   (.iadd, (352, 1, 137), [0], []),
   (.iaload, (353, 1, 138), [], []),
   (.aload_n 0, (354, 1, 139), [], []),
   (.iload_n 3, (355, 1, 140), [], []),
   (.iconst 3, (356, 1, 141), [], []),
   (.iadd, (357, 1, 142), [0], []),
   (.iaload, (358, 1, 143), [], []),
   (.ifCond .eq 7, (359, 3, 144), [146], [])]
def rw_L_law_c9 : List xq_Row := [(.iconst 1, (362, 1, 145), [], []),
   (.goto 4, (363, 3, 146), [147], []),
   (.iconst 0, (366, 1, 147), [], []),
   (.invokevirtual 36, (367, 3, 148), [85, 3, 0, 9, 0, 616, 617, 618, 619, 69], []),
   (.aload_n 2, (370, 1, 149), [], []),
   (.aload_n 0, (371, 1, 150), [], []),
   (.iload_n 3, (372, 1, 151), [], []),
   (.iconst 1, (373, 1, 152), [], []),
   (.iadd, (374, 1, 153), [0], []),
   (.iaload, (375, 1, 154), [], []),
   (.aload_n 0, (376, 1, 155), [], []),
   (.iload_n 3, (377, 1, 156), [], []),
   (.iconst 2, (378, 1, 157), [], []),
   (.iadd, (379, 1, 158), [0], []),
   (.iaload, (380, 1, 159), [], []),
   (.aload_n 0, (381, 1, 160), [], [])]
def rw_L_law_c10 : List xq_Row := [(.iload_n 3, (382, 1, 161), [], []),
   (.iconst 3, (383, 1, 162), [], []),
   (.iadd, (384, 1, 163), [0], []),
   (.iaload, (385, 1, 164), [], []),
   (.ifCond .eq 7, (386, 3, 165), [167], []),
   (.iconst 1, (389, 1, 166), [], []),
   (.goto 4, (390, 3, 167), [168], []),
   (.iconst 0, (393, 1, 168), [], []),
   (.invokevirtual 40, (394, 3, 169), [165, 3, 0, 10, 0, 1172, 1173, 1174, 1175, 79], []),
   (.if_icmp .eq 1019, (397, 3, 170), [982], []),
   (.iconst 0, (400, 1, 171), [], []),
   (.ireturn, (401, 1, 172), [1], []),
   (.aload_n 1, (402, 1, 173), [], []),
   (.aload_n 0, (403, 1, 174), [], []),
   (.iload_n 3, (404, 1, 175), [], []),
   (.iconst 1, (405, 1, 176), [], [])]
def rw_L_law_c11 : List xq_Row := [(.iadd, (406, 1, 177), [0], []),
   (.iaload, (407, 1, 178), [], []),
   (.aload_n 0, (408, 1, 179), [], []),
   (.iload_n 3, (409, 1, 180), [], []),
   (.iconst 2, (410, 1, 181), [], []),
   (.iadd, (411, 1, 182), [0], []),
   (.iaload, (412, 1, 183), [], []),
   (.invokevirtual 41, (413, 3, 184), [86, 2, 0, 9, 0, 620, 621, 622, 623, 69], []),
   (.aload_n 2, (416, 1, 185), [], []),
   (.aload_n 0, (417, 1, 186), [], []),
   (.iload_n 3, (418, 1, 187), [], []),
   (.iconst 1, (419, 1, 188), [], []),
   (.iadd, (420, 1, 189), [0], []),
   (.iaload, (421, 1, 190), [], []),
   (.aload_n 0, (422, 1, 191), [], []),
   (.iload_n 3, (423, 1, 192), [], [])]
def rw_L_law_c12 : List xq_Row := [(.iconst 2, (424, 1, 193), [], []),
   (.iadd, (425, 1, 194), [0], []),
   (.iaload, (426, 1, 195), [], []),
   (.invokevirtual 44, (427, 3, 196), [166, 2, 0, 10, 0, 1176, 1177, 1178, 1179, 79], []),
   (.if_icmp .eq 986, (430, 3, 197), [982], []),
   (.iconst 0, (433, 1, 198), [], []),
   (.ireturn, (434, 1, 199), [1], []),
   (.aload_n 1, (435, 1, 200), [], []),
   (.aload_n 0, (436, 1, 201), [], []),
   (.iload_n 3, (437, 1, 202), [], []),
   (.iconst 1, (438, 1, 203), [], []),
   (.iadd, (439, 1, 204), [0], []),
   (.iaload, (440, 1, 205), [], []),
   (.aload_n 0, (441, 1, 206), [], []),
   (.iload_n 3, (442, 1, 207), [], []),
   (.iconst 2, (443, 1, 208), [], [])]
def rw_L_law_c13 : List xq_Row := [(.iadd, (444, 1, 209), [0], []),
   (.iaload, (445, 1, 210), [], []),
   (.invokevirtual 45, (446, 3, 211), [87, 2, 0, 9, 0, 628, 629, 630, 631, 69], []),
   (.aload_n 2, (449, 1, 212), [], []),
   (.aload_n 0, (450, 1, 213), [], []),
   (.iload_n 3, (451, 1, 214), [], []),
   (.iconst 1, (452, 1, 215), [], []),
   (.iadd, (453, 1, 216), [0], []),
   (.iaload, (454, 1, 217), [], []),
   (.aload_n 0, (455, 1, 218), [], []),
   (.iload_n 3, (456, 1, 219), [], []),
   (.iconst 2, (457, 1, 220), [], []),
   (.iadd, (458, 1, 221), [0], []),
   (.iaload, (459, 1, 222), [], []),
   (.invokevirtual 48, (460, 3, 223), [167, 2, 0, 10, 0, 1180, 1181, 1182, 1183, 79], []),
   (.if_icmp .eq 953, (463, 3, 224), [982], [])]
def rw_L_law_c14 : List xq_Row := [(.iconst 0, (466, 1, 225), [], []),
   (.ireturn, (467, 1, 226), [1], []),
   (.aload_n 1, (468, 1, 227), [], []),
   (.aload_n 0, (469, 1, 228), [], []),
   (.iload_n 3, (470, 1, 229), [], []),
   (.iconst 1, (471, 1, 230), [], []),
   (.iadd, (472, 1, 231), [0], []),
   (.iaload, (473, 1, 232), [], []),
   (.aload_n 0, (474, 1, 233), [], []),
   (.iload_n 3, (475, 1, 234), [], []),
   (.iconst 2, (476, 1, 235), [], []),
   (.iadd, (477, 1, 236), [0], []),
   (.iaload, (478, 1, 237), [], []),
   (.aload_n 0, (479, 1, 238), [], []),
   (.iload_n 3, (480, 1, 239), [], []),
   (.iconst 3, (481, 1, 240), [], [])]
def rw_L_law_c15 : List xq_Row := [(.iadd, (482, 1, 241), [0], []),
   (.iaload, (483, 1, 242), [], []),
   (.invokevirtual 49, (484, 3, 243), [88, 3, 0, 9, 0, 636, 637, 638, 639, 69], []),
   (.aload_n 2, (487, 1, 244), [], []),
   (.aload_n 0, (488, 1, 245), [], []),
   (.iload_n 3, (489, 1, 246), [], []),
   (.iconst 1, (490, 1, 247), [], []),
   (.iadd, (491, 1, 248), [0], []),
   (.iaload, (492, 1, 249), [], []),
   (.aload_n 0, (493, 1, 250), [], []),
   (.iload_n 3, (494, 1, 251), [], []),
   (.iconst 2, (495, 1, 252), [], []),
   (.iadd, (496, 1, 253), [0], []),
   (.iaload, (497, 1, 254), [], []),
   (.aload_n 0, (498, 1, 255), [], []),
   (.iload_n 3, (499, 1, 256), [], [])]
def rw_L_law_c16 : List xq_Row := [(.iconst 3, (500, 1, 257), [], []),
   (.iadd, (501, 1, 258), [0], []),
   (.iaload, (502, 1, 259), [], []),
   (.invokevirtual 53, (503, 3, 260), [168, 3, 0, 10, 0, 1188, 1189, 1190, 1191, 79], []),
   (.if_icmp .eq 910, (506, 3, 261), [982], []),
   (.iconst 0, (509, 1, 262), [], []),
   (.ireturn, (510, 1, 263), [1], []),
   (.aload_n 1, (511, 1, 264), [], []),
   (.aload_n 0, (512, 1, 265), [], []),
   (.iload_n 3, (513, 1, 266), [], []),
   (.iconst 1, (514, 1, 267), [], []),
   (.iadd, (515, 1, 268), [0], []),
   (.iaload, (516, 1, 269), [], []),
   (.aload_n 0, (517, 1, 270), [], []),
   (.iload_n 3, (518, 1, 271), [], []),
   (.iconst 2, (519, 1, 272), [], [])]
def rw_L_law_c17 : List xq_Row := [(.iadd, (520, 1, 273), [0], []),
   (.iaload, (521, 1, 274), [], []),
   (.invokevirtual 54, (522, 3, 275), [89, 2, 0, 9, 0, 640, 641, 642, 643, 69], []),
   (.aload_n 2, (525, 1, 276), [], []),
   (.aload_n 0, (526, 1, 277), [], []),
   (.iload_n 3, (527, 1, 278), [], []),
   (.iconst 1, (528, 1, 279), [], []),
   (.iadd, (529, 1, 280), [0], []),
   (.iaload, (530, 1, 281), [], []),
   (.aload_n 0, (531, 1, 282), [], []),
   (.iload_n 3, (532, 1, 283), [], []),
   (.iconst 2, (533, 1, 284), [], []),
   (.iadd, (534, 1, 285), [0], []),
   (.iaload, (535, 1, 286), [], []),
   (.invokevirtual 57, (536, 3, 287), [180, 2, 0, 10, 0, 1192, 1193, 1194, 1195, 79], []),
   (.if_icmp .eq 877, (539, 3, 288), [982], [])]
def rw_L_law_c18 : List xq_Row := [(.iconst 0, (542, 1, 289), [], []),
   (.ireturn, (543, 1, 290), [1], []),
   (.aload_n 1, (544, 1, 291), [], []),
   (.invokevirtual 58, (545, 3, 292), [90, 0, 0, 9, 0, 721, 722, 723, 724, 69], []),
   (.aload_n 2, (548, 1, 293), [], []),
   (.invokevirtual 61, (549, 3, 294), [181, 0, 0, 10, 0, 1252, 1253, 1254, 1255, 79], []),
   (.if_icmp .eq 864, (552, 3, 295), [982], []),
   (.iconst 0, (555, 1, 296), [], []),
   (.ireturn, (556, 1, 297), [1], []),
   (.aload_n 1, (557, 1, 298), [], []),
   (.invokevirtual 62, (558, 3, 299), [91, 0, 0, 9, 0, 731, 732, 733, 734, 69], []),
   (.aload_n 2, (561, 1, 300), [], []),
   (.invokevirtual 65, (562, 3, 301), [182, 0, 0, 10, 0, 1256, 1257, 1258, 1259, 79], []),
   (.if_icmp .eq 851, (565, 3, 302), [982], []),
   (.iconst 0, (568, 1, 303), [], []),
   (.ireturn, (569, 1, 304), [1], [])]
def rw_L_law_c19 : List xq_Row := [(.aload_n 1, (570, 1, 305), [], []),
   (.aload_n 0, (571, 1, 306), [], []),
   (.iload_n 3, (572, 1, 307), [], []),
   (.iconst 1, (573, 1, 308), [], []),
   (.iadd, (574, 1, 309), [0], []),
   (.iaload, (575, 1, 310), [], []),
   (.invokevirtual 66, (576, 3, 311), [92, 1, 0, 9, 0, 735, 736, 737, 738, 69], []),
   (.aload_n 2, (579, 1, 312), [], []),
   (.aload_n 0, (580, 1, 313), [], []),
   (.iload_n 3, (581, 1, 314), [], []),
   (.iconst 1, (582, 1, 315), [], []),
   (.iadd, (583, 1, 316), [0], []),
   (.iaload, (584, 1, 317), [], []),
   (.invokevirtual 69, (585, 3, 318), [183, 1, 0, 10, 0, 1260, 1261, 1262, 1263, 79], []),
   (.if_icmp .eq 828, (588, 3, 319), [982], []),
   (.iconst 0, (591, 1, 320), [], [])]
def rw_L_law_c20 : List xq_Row := [(.ireturn, (592, 1, 321), [1], []),
   (.aload_n 1, (593, 1, 322), [], []),
   (.aload_n 0, (594, 1, 323), [], []),
   (.iload_n 3, (595, 1, 324), [], []),
   (.iconst 1, (596, 1, 325), [], []),
   (.iadd, (597, 1, 326), [0], []),
   (.iaload, (598, 1, 327), [], []),
   (.aload_n 0, (599, 1, 328), [], []),
   (.iload_n 3, (600, 1, 329), [], []),
   (.iconst 2, (601, 1, 330), [], []),
   (.iadd, (602, 1, 331), [0], []),
   (.iaload, (603, 1, 332), [], []),
   (.invokevirtual 70, (604, 3, 333), [93, 2, 0, 9, 0, 742, 743, 744, 745, 69], []),
   (.aload_n 2, (607, 1, 334), [], []),
   (.aload_n 0, (608, 1, 335), [], []),
   (.iload_n 3, (609, 1, 336), [], [])]
def rw_L_law_c21 : List xq_Row := [(.iconst 1, (610, 1, 337), [], []),
   (.iadd, (611, 1, 338), [0], []),
   (.iaload, (612, 1, 339), [], []),
   (.aload_n 0, (613, 1, 340), [], []),
   (.iload_n 3, (614, 1, 341), [], []),
   (.iconst 2, (615, 1, 342), [], []),
   (.iadd, (616, 1, 343), [0], []),
   (.iaload, (617, 1, 344), [], []),
   (.invokevirtual 73, (618, 3, 345), [184, 2, 0, 10, 0, 1264, 1265, 1266, 1267, 79], []),
   (.if_icmp .eq 795, (621, 3, 346), [982], []),
   (.iconst 0, (624, 1, 347), [], []),
   (.ireturn, (625, 1, 348), [1], []),
   (.aload_n 1, (626, 1, 349), [], []),
   (.aload_n 0, (627, 1, 350), [], []),
   (.iload_n 3, (628, 1, 351), [], []),
   (.iconst 1, (629, 1, 352), [], [])]
def rw_L_law_c22 : List xq_Row := [(.iadd, (630, 1, 353), [0], []),
   (.iaload, (631, 1, 354), [], []),
   (.aload_n 0, (632, 1, 355), [], []),
   (.iload_n 3, (633, 1, 356), [], []),
   (.iconst 2, (634, 1, 357), [], []),
   (.iadd, (635, 1, 358), [0], []),
   (.iaload, (636, 1, 359), [], []),
   (.aload_n 0, (637, 1, 360), [], []),
   (.iload_n 3, (638, 1, 361), [], []),
   (.iconst 3, (639, 1, 362), [], []),
   (.iadd, (640, 1, 363), [0], []),
   (.iaload, (641, 1, 364), [], []),
   (.aload_n 0, (642, 1, 365), [], []),
   (.iload_n 3, (643, 1, 366), [], []),
   (.iconst 4, (644, 1, 367), [], []),
   (.iadd, (645, 1, 368), [0], [])]
def rw_L_law_c23 : List xq_Row := [(.iaload, (646, 1, 369), [], []),
   (.invokevirtual 74, (647, 3, 370), [94, 4, 0, 9, 0, 751, 752, 753, 754, 69], []),
   (.aload_n 2, (650, 1, 371), [], []),
   (.aload_n 0, (651, 1, 372), [], []),
   (.iload_n 3, (652, 1, 373), [], []),
   (.iconst 1, (653, 1, 374), [], []),
   (.iadd, (654, 1, 375), [0], []),
   (.iaload, (655, 1, 376), [], []),
   (.aload_n 0, (656, 1, 377), [], []),
   (.iload_n 3, (657, 1, 378), [], []),
   (.iconst 2, (658, 1, 379), [], []),
   (.iadd, (659, 1, 380), [0], []),
   (.iaload, (660, 1, 381), [], []),
   (.aload_n 0, (661, 1, 382), [], []),
   (.iload_n 3, (662, 1, 383), [], []),
   (.iconst 3, (663, 1, 384), [], [])]
def rw_L_law_c24 : List xq_Row := [(.iadd, (664, 1, 385), [0], []),
   (.iaload, (665, 1, 386), [], []),
   (.aload_n 0, (666, 1, 387), [], []),
   (.iload_n 3, (667, 1, 388), [], []),
   (.iconst 4, (668, 1, 389), [], []),
   (.iadd, (669, 1, 390), [0], []),
   (.iaload, (670, 1, 391), [], []),
   (.invokevirtual 78, (671, 3, 392), [185, 4, 0, 10, 0, 1268, 1269, 1270, 1271, 79], []),
   (.if_icmp .eq 742, (674, 3, 393), [982], []),
   (.iconst 0, (677, 1, 394), [], []),
   (.ireturn, (678, 1, 395), [1], []),
   (.aload_n 1, (679, 1, 396), [], []),
   (.aload_n 0, (680, 1, 397), [], []),
   (.iload_n 3, (681, 1, 398), [], []),
   (.iconst 1, (682, 1, 399), [], []),
   (.iadd, (683, 1, 400), [0], [])]
def rw_L_law_c25 : List xq_Row := [(.iaload, (684, 1, 401), [], []),
   (.invokevirtual 79, (685, 3, 402), [95, 1, 0, 9, 0, 764, 765, 766, 767, 69], []),
   (.aload_n 2, (688, 1, 403), [], []),
   (.aload_n 0, (689, 1, 404), [], []),
   (.iload_n 3, (690, 1, 405), [], []),
   (.iconst 1, (691, 1, 406), [], []),
   (.iadd, (692, 1, 407), [0], []),
   (.iaload, (693, 1, 408), [], []),
   (.invokevirtual 82, (694, 3, 409), [187, 1, 0, 10, 0, 1272, 1273, 1274, 1275, 79], []),
   (.if_icmp .eq 719, (697, 3, 410), [982], []),
   (.iconst 0, (700, 1, 411), [], []),
   (.ireturn, (701, 1, 412), [1], []),
   (.aload_n 1, (702, 1, 413), [], []),
   (.aload_n 0, (703, 1, 414), [], []),
   (.iload_n 3, (704, 1, 415), [], []),
   (.iconst 1, (705, 1, 416), [], [])]
def rw_L_law_c26 : List xq_Row := [(.iadd, (706, 1, 417), [0], []),
   (.iaload, (707, 1, 418), [], []),
   (.aload_n 0, (708, 1, 419), [], []),
   (.iload_n 3, (709, 1, 420), [], []),
   (.iconst 2, (710, 1, 421), [], []),
   (.iadd, (711, 1, 422), [0], []),
   (.iaload, (712, 1, 423), [], []),
   (.aload_n 0, (713, 1, 424), [], []),
   (.iload_n 3, (714, 1, 425), [], []),
   (.iconst 3, (715, 1, 426), [], []),
   (.iadd, (716, 1, 427), [0], []),
   (.iaload, (717, 1, 428), [], []),
   (.invokevirtual 83, (718, 3, 429), [96, 3, 0, 9, 0, 772, 773, 774, 775, 69], []),
   (.aload_n 2, (721, 1, 430), [], []),
   (.aload_n 0, (722, 1, 431), [], []),
   (.iload_n 3, (723, 1, 432), [], [])]
def rw_L_law_c27 : List xq_Row := [(.iconst 1, (724, 1, 433), [], []),
   (.iadd, (725, 1, 434), [0], []),
   (.iaload, (726, 1, 435), [], []),
   (.aload_n 0, (727, 1, 436), [], []),
   (.iload_n 3, (728, 1, 437), [], []),
   (.iconst 2, (729, 1, 438), [], []),
   (.iadd, (730, 1, 439), [0], []),
   (.iaload, (731, 1, 440), [], []),
   (.aload_n 0, (732, 1, 441), [], []),
   (.iload_n 3, (733, 1, 442), [], []),
   (.iconst 3, (734, 1, 443), [], []),
   (.iadd, (735, 1, 444), [0], []),
   (.iaload, (736, 1, 445), [], []),
   (.invokevirtual 86, (737, 3, 446), [190, 3, 0, 10, 0, 1280, 1281, 1282, 1283, 79], []),
   (.if_icmp .eq 676, (740, 3, 447), [982], []),
   (.iconst 0, (743, 1, 448), [], [])]
def rw_L_law_c28 : List xq_Row := [(.ireturn, (744, 1, 449), [1], []),
   (.aload_n 1, (745, 1, 450), [], []),
   (.aload_n 0, (746, 1, 451), [], []),
   (.iload_n 3, (747, 1, 452), [], []),
   (.iconst 1, (748, 1, 453), [], []),
   (.iadd, (749, 1, 454), [0], []),
   (.iaload, (750, 1, 455), [], []),
   (.invokevirtual 87, (751, 3, 456), [97, 1, 0, 9, 0, 780, 781, 782, 783, 69], []),
   (.aload_n 2, (754, 1, 457), [], []),
   (.aload_n 0, (755, 1, 458), [], []),
   (.iload_n 3, (756, 1, 459), [], []),
   (.iconst 1, (757, 1, 460), [], []),
   (.iadd, (758, 1, 461), [0], []),
   (.iaload, (759, 1, 462), [], []),
   (.invokevirtual 90, (760, 3, 463), [191, 1, 0, 10, 0, 1292, 1293, 1294, 1295, 79], []),
   (.if_icmp .eq 653, (763, 3, 464), [982], [])]
def rw_L_law_c29 : List xq_Row := [(.iconst 0, (766, 1, 465), [], []),
   (.ireturn, (767, 1, 466), [1], []),
   (.aload_n 1, (768, 1, 467), [], []),
   (.aload_n 0, (769, 1, 468), [], []),
   (.iload_n 3, (770, 1, 469), [], []),
   (.iconst 1, (771, 1, 470), [], []),
   (.iadd, (772, 1, 471), [0], []),
   (.iaload, (773, 1, 472), [], []),
   (.aload_n 0, (774, 1, 473), [], []),
   (.iload_n 3, (775, 1, 474), [], []),
   (.iconst 2, (776, 1, 475), [], []),
   (.iadd, (777, 1, 476), [0], []),
   (.iaload, (778, 1, 477), [], []),
   (.aload_n 0, (779, 1, 478), [], []),
   (.iload_n 3, (780, 1, 479), [], []),
   (.iconst 3, (781, 1, 480), [], [])]
def rw_L_law_c30 : List xq_Row := [(.iadd, (782, 1, 481), [0], []),
   (.iaload, (783, 1, 482), [], []),
   (.invokevirtual 91, (784, 3, 483), [98, 3, 0, 9, 0, 788, 789, 790, 791, 69], []),
   (.aload_n 2, (787, 1, 484), [], []),
   (.aload_n 0, (788, 1, 485), [], []),
   (.iload_n 3, (789, 1, 486), [], []),
   (.iconst 1, (790, 1, 487), [], []),
   (.iadd, (791, 1, 488), [0], []),
   (.iaload, (792, 1, 489), [], []),
   (.aload_n 0, (793, 1, 490), [], []),
   (.iload_n 3, (794, 1, 491), [], []),
   (.iconst 2, (795, 1, 492), [], []),
   (.iadd, (796, 1, 493), [0], []),
   (.iaload, (797, 1, 494), [], []),
   (.aload_n 0, (798, 1, 495), [], []),
   (.iload_n 3, (799, 1, 496), [], [])]
def rw_L_law_c31 : List xq_Row := [(.iconst 3, (800, 1, 497), [], []),
   (.iadd, (801, 1, 498), [0], []),
   (.iaload, (802, 1, 499), [], []),
   (.invokevirtual 94, (803, 3, 500), [192, 3, 0, 10, 0, 1296, 1297, 1298, 1299, 79], []),
   (.if_icmp .eq 610, (806, 3, 501), [982], []),
   (.iconst 0, (809, 1, 502), [], []),
   (.ireturn, (810, 1, 503), [1], []),
   (.aload_n 1, (811, 1, 504), [], []),
   (.aload_n 0, (812, 1, 505), [], []),
   (.iload_n 3, (813, 1, 506), [], []),
   (.iconst 1, (814, 1, 507), [], []),
   (.iadd, (815, 1, 508), [0], []),
   (.iaload, (816, 1, 509), [], []),
   (.aload_n 0, (817, 1, 510), [], []),
   (.iload_n 3, (818, 1, 511), [], []),
   (.iconst 2, (819, 1, 512), [], [])]
def rw_L_law_c32 : List xq_Row := [(.iadd, (820, 1, 513), [0], []),
   (.iaload, (821, 1, 514), [], []),
   (.invokevirtual 95, (822, 3, 515), [99, 2, 0, 9, 0, 792, 793, 794, 795, 69], []),
   (.aload_n 2, (825, 1, 516), [], []),
   (.aload_n 0, (826, 1, 517), [], []),
   (.iload_n 3, (827, 1, 518), [], []),
   (.iconst 1, (828, 1, 519), [], []),
   (.iadd, (829, 1, 520), [0], []),
   (.iaload, (830, 1, 521), [], []),
   (.aload_n 0, (831, 1, 522), [], []),
   (.iload_n 3, (832, 1, 523), [], []),
   (.iconst 2, (833, 1, 524), [], []),
   (.iadd, (834, 1, 525), [0], []),
   (.iaload, (835, 1, 526), [], []),
   (.invokevirtual 98, (836, 3, 527), [193, 2, 0, 10, 0, 1300, 1301, 1302, 1303, 79], []),
   (.if_icmp .eq 577, (839, 3, 528), [982], [])]
def rw_L_law_c33 : List xq_Row := [(.iconst 0, (842, 1, 529), [], []),
   (.ireturn, (843, 1, 530), [1], []),
   (.aload_n 1, (844, 1, 531), [], []),
   (.aload_n 0, (845, 1, 532), [], []),
   (.iload_n 3, (846, 1, 533), [], []),
   (.iconst 1, (847, 1, 534), [], []),
   (.iadd, (848, 1, 535), [0], []),
   (.iaload, (849, 1, 536), [], []),
   (.aload_n 0, (850, 1, 537), [], []),
   (.iload_n 3, (851, 1, 538), [], []),
   (.iconst 2, (852, 1, 539), [], []),
   (.iadd, (853, 1, 540), [0], []),
   (.iaload, (854, 1, 541), [], []),
   (.invokevirtual 99, (855, 3, 542), [100, 2, 0, 9, 0, 796, 797, 798, 799, 69], []),
   (.aload_n 2, (858, 1, 543), [], []),
   (.aload_n 0, (859, 1, 544), [], [])]
def rw_L_law_c34 : List xq_Row := [(.iload_n 3, (860, 1, 545), [], []),
   (.iconst 1, (861, 1, 546), [], []),
   (.iadd, (862, 1, 547), [0], []),
   (.iaload, (863, 1, 548), [], []),
   (.aload_n 0, (864, 1, 549), [], []),
   (.iload_n 3, (865, 1, 550), [], []),
   (.iconst 2, (866, 1, 551), [], []),
   (.iadd, (867, 1, 552), [0], []),
   (.iaload, (868, 1, 553), [], []),
   (.invokevirtual 102, (869, 3, 554), [196, 2, 0, 10, 0, 1312, 1313, 1314, 1315, 79], []),
   (.if_icmp .eq 544, (872, 3, 555), [982], []),
   (.iconst 0, (875, 1, 556), [], []),
   (.ireturn, (876, 1, 557), [1], []),
   (.aload_n 1, (877, 1, 558), [], []),
   (.aload_n 0, (878, 1, 559), [], []),
   (.iload_n 3, (879, 1, 560), [], [])]
def rw_L_law_c35 : List xq_Row := [(.iconst 1, (880, 1, 561), [], []),
   (.iadd, (881, 1, 562), [0], []),
   (.iaload, (882, 1, 563), [], []),
   (.invokevirtual 103, (883, 3, 564), [101, 1, 0, 9, 0, 812, 813, 814, 815, 69], []),
   (.aload_n 2, (886, 1, 565), [], []),
   (.aload_n 0, (887, 1, 566), [], []),
   (.iload_n 3, (888, 1, 567), [], []),
   (.iconst 1, (889, 1, 568), [], []),
   (.iadd, (890, 1, 569), [0], []),
   (.iaload, (891, 1, 570), [], []),
   (.invokevirtual 106, (892, 3, 571), [197, 1, 0, 10, 0, 1324, 1325, 1326, 1327, 79], []),
   (.if_icmp .eq 521, (895, 3, 572), [982], []),
   (.iconst 0, (898, 1, 573), [], []),
   (.ireturn, (899, 1, 574), [1], []),
   (.aload_n 1, (900, 1, 575), [], []),
   (.aload_n 0, (901, 1, 576), [], [])]
def rw_L_law_c36 : List xq_Row := [(.iload_n 3, (902, 1, 577), [], []),
   (.iconst 1, (903, 1, 578), [], []),
   (.iadd, (904, 1, 579), [0], []),
   (.iaload, (905, 1, 580), [], []),
   (.aload_n 0, (906, 1, 581), [], []),
   (.iload_n 3, (907, 1, 582), [], []),
   (.iconst 2, (908, 1, 583), [], []),
   (.iadd, (909, 1, 584), [0], []),
   (.iaload, (910, 1, 585), [], []),
   (.invokevirtual 107, (911, 3, 586), [102, 2, 0, 9, 0, 817, 818, 819, 820, 69], []),
   (.aload_n 2, (914, 1, 587), [], []),
   (.aload_n 0, (915, 1, 588), [], []),
   (.iload_n 3, (916, 1, 589), [], []),
   (.iconst 1, (917, 1, 590), [], []),
   (.iadd, (918, 1, 591), [0], []),
   (.iaload, (919, 1, 592), [], [])]
def rw_L_law_c37 : List xq_Row := [(.aload_n 0, (920, 1, 593), [], []),
   (.iload_n 3, (921, 1, 594), [], []),
   (.iconst 2, (922, 1, 595), [], []),
   (.iadd, (923, 1, 596), [0], []),
   (.iaload, (924, 1, 597), [], []),
   (.invokevirtual 110, (925, 3, 598), [198, 2, 0, 10, 0, 1328, 1329, 1330, 1331, 79], []),
   (.if_icmp .eq 488, (928, 3, 599), [982], []),
   (.iconst 0, (931, 1, 600), [], []),
   (.ireturn, (932, 1, 601), [1], []),
   (.aload_n 1, (933, 1, 602), [], []),
   (.aload_n 0, (934, 1, 603), [], []),
   (.iload_n 3, (935, 1, 604), [], []),
   (.iconst 1, (936, 1, 605), [], []),
   (.iadd, (937, 1, 606), [0], []),
   (.iaload, (938, 1, 607), [], []),
   (.aload_n 0, (939, 1, 608), [], [])]
def rw_L_law_c38 : List xq_Row := [(.iload_n 3, (940, 1, 609), [], []),
   (.iconst 2, (941, 1, 610), [], []),
   (.iadd, (942, 1, 611), [0], []),
   (.iaload, (943, 1, 612), [], []),
   (.aload_n 0, (944, 1, 613), [], []),
   (.iload_n 3, (945, 1, 614), [], []),
   (.iconst 3, (946, 1, 615), [], []),
   (.iadd, (947, 1, 616), [0], []),
   (.iaload, (948, 1, 617), [], []),
   (.invokevirtual 111, (949, 3, 618), [103, 3, 0, 9, 0, 821, 822, 823, 824, 69], []),
   (.aload_n 2, (952, 1, 619), [], []),
   (.aload_n 0, (953, 1, 620), [], []),
   (.iload_n 3, (954, 1, 621), [], []),
   (.iconst 1, (955, 1, 622), [], []),
   (.iadd, (956, 1, 623), [0], []),
   (.iaload, (957, 1, 624), [], [])]
def rw_L_law_c39 : List xq_Row := [(.aload_n 0, (958, 1, 625), [], []),
   (.iload_n 3, (959, 1, 626), [], []),
   (.iconst 2, (960, 1, 627), [], []),
   (.iadd, (961, 1, 628), [0], []),
   (.iaload, (962, 1, 629), [], []),
   (.aload_n 0, (963, 1, 630), [], []),
   (.iload_n 3, (964, 1, 631), [], []),
   (.iconst 3, (965, 1, 632), [], []),
   (.iadd, (966, 1, 633), [0], []),
   (.iaload, (967, 1, 634), [], []),
   (.invokevirtual 115, (968, 3, 635), [201, 3, 0, 10, 0, 1332, 1333, 1334, 1335, 79], []),
   (.lcmp, (971, 1, 636), [], []),
   (.ifCond .eq 444, (972, 3, 637), [982], []),
   (.iconst 0, (975, 1, 638), [], []),
   (.ireturn, (976, 1, 639), [1], []),
   (.aload_n 1, (977, 1, 640), [], [])]
def rw_L_law_c40 : List xq_Row := [(.aload_n 0, (978, 1, 641), [], []),
   (.iload_n 3, (979, 1, 642), [], []),
   (.iconst 1, (980, 1, 643), [], []),
   (.iadd, (981, 1, 644), [0], []),
   (.iaload, (982, 1, 645), [], []),
   (.aload_n 0, (983, 1, 646), [], []),
   (.iload_n 3, (984, 1, 647), [], []),
   (.iconst 2, (985, 1, 648), [], []),
   (.iadd, (986, 1, 649), [0], []),
   (.iaload, (987, 1, 650), [], []),
   (.invokevirtual 116, (988, 3, 651), [104, 2, 0, 9, 0, 837, 838, 839, 840, 69], []),
   (.aload_n 2, (991, 1, 652), [], []),
   (.aload_n 0, (992, 1, 653), [], []),
   (.iload_n 3, (993, 1, 654), [], []),
   (.iconst 1, (994, 1, 655), [], []),
   (.iadd, (995, 1, 656), [0], [])]
def rw_L_law_c41 : List xq_Row := [(.iaload, (996, 1, 657), [], []),
   (.aload_n 0, (997, 1, 658), [], []),
   (.iload_n 3, (998, 1, 659), [], []),
   (.iconst 2, (999, 1, 660), [], []),
   (.iadd, (1000, 1, 661), [0], []),
   (.iaload, (1001, 1, 662), [], []),
   (.invokevirtual 120, (1002, 3, 663), [203, 2, 0, 10, 0, 1344, 1345, 1346, 1347, 79], []),
   (.lcmp, (1005, 1, 664), [], []),
   (.ifCond .eq 410, (1006, 3, 665), [982], []),
   (.iconst 0, (1009, 1, 666), [], []),
   (.ireturn, (1010, 1, 667), [1], []),
   (.aload_n 1, (1011, 1, 668), [], []),
   (.aload_n 0, (1012, 1, 669), [], []),
   (.iload_n 3, (1013, 1, 670), [], []),
   (.iconst 1, (1014, 1, 671), [], []),
   (.iadd, (1015, 1, 672), [0], [])]
def rw_L_law_c42 : List xq_Row := [(.iaload, (1016, 1, 673), [], []),
   (.aload_n 0, (1017, 1, 674), [], []),
   (.iload_n 3, (1018, 1, 675), [], []),
   (.iconst 2, (1019, 1, 676), [], []),
   (.iadd, (1020, 1, 677), [0], []),
   (.iaload, (1021, 1, 678), [], []),
   (.aload_n 0, (1022, 1, 679), [], []),
   (.iload_n 3, (1023, 1, 680), [], []),
   (.iconst 3, (1024, 1, 681), [], []),
   (.iadd, (1025, 1, 682), [0], []),
   (.iaload, (1026, 1, 683), [], []),
   (.invokevirtual 121, (1027, 3, 684), [105, 3, 0, 9, 0, 848, 849, 850, 851, 69], []),
   (.aload_n 2, (1030, 1, 685), [], []),
   (.aload_n 0, (1031, 1, 686), [], []),
   (.iload_n 3, (1032, 1, 687), [], []),
   (.iconst 1, (1033, 1, 688), [], [])]
def rw_L_law_c43 : List xq_Row := [(.iadd, (1034, 1, 689), [0], []),
   (.iaload, (1035, 1, 690), [], []),
   (.aload_n 0, (1036, 1, 691), [], []),
   (.iload_n 3, (1037, 1, 692), [], []),
   (.iconst 2, (1038, 1, 693), [], []),
   (.iadd, (1039, 1, 694), [0], []),
   (.iaload, (1040, 1, 695), [], []),
   (.aload_n 0, (1041, 1, 696), [], []),
   (.iload_n 3, (1042, 1, 697), [], []),
   (.iconst 3, (1043, 1, 698), [], []),
   (.iadd, (1044, 1, 699), [0], []),
   (.iaload, (1045, 1, 700), [], []),
   (.invokevirtual 124, (1046, 3, 701), [206, 3, 0, 10, 0, 1351, 1352, 1353, 1354, 79], []),
   (.if_icmp .eq 367, (1049, 3, 702), [982], []),
   (.iconst 0, (1052, 1, 703), [], []),
   (.ireturn, (1053, 1, 704), [1], [])]
def rw_L_law_c44 : List xq_Row := [(.aload_n 1, (1054, 1, 705), [], []),
   (.aload_n 0, (1055, 1, 706), [], []),
   (.iload_n 3, (1056, 1, 707), [], []),
   (.iconst 1, (1057, 1, 708), [], []),
   (.iadd, (1058, 1, 709), [0], []),
   (.iaload, (1059, 1, 710), [], []),
   (.aload_n 0, (1060, 1, 711), [], []),
   (.iload_n 3, (1061, 1, 712), [], []),
   (.iconst 2, (1062, 1, 713), [], []),
   (.iadd, (1063, 1, 714), [0], []),
   (.iaload, (1064, 1, 715), [], []),
   (.invokevirtual 125, (1065, 3, 716), [106, 2, 0, 9, 0, 859, 860, 861, 862, 69], []),
   (.aload_n 2, (1068, 1, 717), [], []),
   (.aload_n 0, (1069, 1, 718), [], []),
   (.iload_n 3, (1070, 1, 719), [], []),
   (.iconst 1, (1071, 1, 720), [], [])]
def rw_L_law_c45 : List xq_Row := [(.iadd, (1072, 1, 721), [0], []),
   (.iaload, (1073, 1, 722), [], []),
   (.aload_n 0, (1074, 1, 723), [], []),
   (.iload_n 3, (1075, 1, 724), [], []),
   (.iconst 2, (1076, 1, 725), [], []),
   (.iadd, (1077, 1, 726), [0], []),
   (.iaload, (1078, 1, 727), [], []),
   (.invokevirtual 128, (1079, 3, 728), [208, 2, 0, 10, 0, 1363, 1364, 1365, 1366, 79], []),
   (.if_icmp .eq 334, (1082, 3, 729), [982], []),
   (.iconst 0, (1085, 1, 730), [], []),
   (.ireturn, (1086, 1, 731), [1], []),
   (.aload_n 1, (1087, 1, 732), [], []),
   (.aload_n 0, (1088, 1, 733), [], []),
   (.iload_n 3, (1089, 1, 734), [], []),
   (.iconst 1, (1090, 1, 735), [], []),
   (.iadd, (1091, 1, 736), [0], [])]
def rw_L_law_c46 : List xq_Row := [(.iaload, (1092, 1, 737), [], []),
   (.aload_n 0, (1093, 1, 738), [], []),
   (.iload_n 3, (1094, 1, 739), [], []),
   (.iconst 2, (1095, 1, 740), [], []),
   (.iadd, (1096, 1, 741), [0], []),
   (.iaload, (1097, 1, 742), [], []),
   (.invokevirtual 129, (1098, 3, 743), [107, 2, 0, 9, 0, 867, 868, 869, 870, 69], []),
   (.aload_n 2, (1101, 1, 744), [], []),
   (.aload_n 0, (1102, 1, 745), [], []),
   (.iload_n 3, (1103, 1, 746), [], []),
   (.iconst 1, (1104, 1, 747), [], []),
   (.iadd, (1105, 1, 748), [0], []),
   (.iaload, (1106, 1, 749), [], []),
   (.aload_n 0, (1107, 1, 750), [], []),
   (.iload_n 3, (1108, 1, 751), [], []),
   (.iconst 2, (1109, 1, 752), [], [])]
def rw_L_law_c47 : List xq_Row := [(.iadd, (1110, 1, 753), [0], []),
   (.iaload, (1111, 1, 754), [], []),
   (.invokevirtual 132, (1112, 3, 755), [209, 2, 0, 10, 0, 1371, 1372, 1373, 1374, 79], []),
   (.if_icmp .eq 301, (1115, 3, 756), [982], []),
   (.iconst 0, (1118, 1, 757), [], []),
   (.ireturn, (1119, 1, 758), [1], []),
   (.aload_n 1, (1120, 1, 759), [], []),
   (.aload_n 0, (1121, 1, 760), [], []),
   (.iload_n 3, (1122, 1, 761), [], []),
   (.iconst 1, (1123, 1, 762), [], []),
   (.iadd, (1124, 1, 763), [0], []),
   (.iaload, (1125, 1, 764), [], []),
   (.aload_n 0, (1126, 1, 765), [], []),
   (.iload_n 3, (1127, 1, 766), [], []),
   (.iconst 2, (1128, 1, 767), [], []),
   (.iadd, (1129, 1, 768), [0], [])]
def rw_L_law_c48 : List xq_Row := [(.iaload, (1130, 1, 769), [], []),
   (.invokevirtual 133, (1131, 3, 770), [108, 2, 0, 9, 0, 871, 872, 873, 874, 69], []),
   (.aload_n 2, (1134, 1, 771), [], []),
   (.aload_n 0, (1135, 1, 772), [], []),
   (.iload_n 3, (1136, 1, 773), [], []),
   (.iconst 1, (1137, 1, 774), [], []),
   (.iadd, (1138, 1, 775), [0], []),
   (.iaload, (1139, 1, 776), [], []),
   (.aload_n 0, (1140, 1, 777), [], []),
   (.iload_n 3, (1141, 1, 778), [], []),
   (.iconst 2, (1142, 1, 779), [], []),
   (.iadd, (1143, 1, 780), [0], []),
   (.iaload, (1144, 1, 781), [], []),
   (.invokevirtual 136, (1145, 3, 782), [210, 2, 0, 10, 0, 1375, 1376, 1377, 1378, 79], []),
   (.if_icmp .eq 268, (1148, 3, 783), [982], []),
   (.iconst 0, (1151, 1, 784), [], [])]
def rw_L_law_c49 : List xq_Row := [(.ireturn, (1152, 1, 785), [1], []),
   (.aload_n 1, (1153, 1, 786), [], []),
   (.invokevirtual 137, (1154, 3, 787), [109, 0, 0, 9, 0, 875, 876, 877, 878, 69], []),
   (.aload_n 2, (1157, 1, 788), [], []),
   (.invokevirtual 140, (1158, 3, 789), [211, 0, 0, 10, 0, 1379, 1380, 1381, 1382, 79], []),
   (.if_icmp .eq 255, (1161, 3, 790), [982], []),
   (.iconst 0, (1164, 1, 791), [], []),
   (.ireturn, (1165, 1, 792), [1], []),
   (.aload_n 1, (1166, 1, 793), [], []),
   (.aload_n 0, (1167, 1, 794), [], []),
   (.iload_n 3, (1168, 1, 795), [], []),
   (.iconst 1, (1169, 1, 796), [], []),
   (.iadd, (1170, 1, 797), [0], []),
   (.iaload, (1171, 1, 798), [], []),
   (.invokevirtual 141, (1172, 3, 799), [110, 1, 0, 9, 0, 883, 884, 885, 886, 69], []),
   (.aload_n 2, (1175, 1, 800), [], [])]
def rw_L_law_c50 : List xq_Row := [(.aload_n 0, (1176, 1, 801), [], []),
   (.iload_n 3, (1177, 1, 802), [], []),
   (.iconst 1, (1178, 1, 803), [], []),
   (.iadd, (1179, 1, 804), [0], []),
   (.iaload, (1180, 1, 805), [], []),
   (.invokevirtual 144, (1181, 3, 806), [212, 1, 0, 10, 0, 1383, 1384, 1385, 1386, 79], []),
   (.if_icmp .eq 232, (1184, 3, 807), [982], []),
   (.iconst 0, (1187, 1, 808), [], []),
   (.ireturn, (1188, 1, 809), [1], []),
   (.aload_n 1, (1189, 1, 810), [], []),
   (.aload_n 0, (1190, 1, 811), [], []),
   (.iload_n 3, (1191, 1, 812), [], []),
   (.iconst 1, (1192, 1, 813), [], []),
   (.iadd, (1193, 1, 814), [0], []),
   (.iaload, (1194, 1, 815), [], []),
   (.invokevirtual 145, (1195, 3, 816), [111, 1, 0, 9, 0, 887, 888, 889, 890, 69], [])]
def rw_L_law_c51 : List xq_Row := [(.aload_n 2, (1198, 1, 817), [], []),
   (.aload_n 0, (1199, 1, 818), [], []),
   (.iload_n 3, (1200, 1, 819), [], []),
   (.iconst 1, (1201, 1, 820), [], []),
   (.iadd, (1202, 1, 821), [0], []),
   (.iaload, (1203, 1, 822), [], []),
   (.invokevirtual 148, (1204, 3, 823), [213, 1, 0, 10, 0, 1387, 1388, 1389, 1390, 79], []),
   (.if_icmp .eq 209, (1207, 3, 824), [982], []),
   (.iconst 0, (1210, 1, 825), [], []),
   (.ireturn, (1211, 1, 826), [1], []),
   (.aload_n 1, (1212, 1, 827), [], []),
   (.aload_n 0, (1213, 1, 828), [], []),
   (.iload_n 3, (1214, 1, 829), [], []),
   (.iconst 1, (1215, 1, 830), [], []),
   (.iadd, (1216, 1, 831), [0], []),
   (.iaload, (1217, 1, 832), [], [])]
def rw_L_law_c52 : List xq_Row := [(.aload_n 0, (1218, 1, 833), [], []),
   (.iload_n 3, (1219, 1, 834), [], []),
   (.iconst 2, (1220, 1, 835), [], []),
   (.iadd, (1221, 1, 836), [0], []),
   (.iaload, (1222, 1, 837), [], []),
   (.aload_n 0, (1223, 1, 838), [], []),
   (.iload_n 3, (1224, 1, 839), [], []),
   (.iconst 3, (1225, 1, 840), [], []),
   (.iadd, (1226, 1, 841), [0], []),
   (.iaload, (1227, 1, 842), [], []),
   (.invokevirtual 149, (1228, 3, 843), [112, 3, 0, 9, 0, 892, 893, 894, 895, 69], []),
   (.aload_n 2, (1231, 1, 844), [], []),
   (.aload_n 0, (1232, 1, 845), [], []),
   (.iload_n 3, (1233, 1, 846), [], []),
   (.iconst 1, (1234, 1, 847), [], []),
   (.iadd, (1235, 1, 848), [0], [])]
def rw_L_law_c53 : List xq_Row := [(.iaload, (1236, 1, 849), [], []),
   (.aload_n 0, (1237, 1, 850), [], []),
   (.iload_n 3, (1238, 1, 851), [], []),
   (.iconst 2, (1239, 1, 852), [], []),
   (.iadd, (1240, 1, 853), [0], []),
   (.iaload, (1241, 1, 854), [], []),
   (.aload_n 0, (1242, 1, 855), [], []),
   (.iload_n 3, (1243, 1, 856), [], []),
   (.iconst 3, (1244, 1, 857), [], []),
   (.iadd, (1245, 1, 858), [0], []),
   (.iaload, (1246, 1, 859), [], []),
   (.invokevirtual 152, (1247, 3, 860), [214, 3, 0, 10, 0, 1391, 1392, 1393, 1394, 79], []),
   (.if_icmp .eq 166, (1250, 3, 861), [982], []),
   (.iconst 0, (1253, 1, 862), [], []),
   (.ireturn, (1254, 1, 863), [1], []),
   (.aload_n 1, (1255, 1, 864), [], [])]
def rw_L_law_c54 : List xq_Row := [(.invokevirtual 153, (1256, 3, 865), [113, 0, 0, 9, 0, 900, 901, 902, 903, 69], []),
   (.aload_n 2, (1259, 1, 866), [], []),
   (.invokevirtual 156, (1260, 3, 867), [215, 0, 0, 10, 0, 1395, 1396, 1397, 1398, 79], []),
   (.if_icmp .eq 153, (1263, 3, 868), [982], []),
   (.iconst 0, (1266, 1, 869), [], []),
   (.ireturn, (1267, 1, 870), [1], []),
   (.aload_n 1, (1268, 1, 871), [], []),
   (.aload_n 0, (1269, 1, 872), [], []),
   (.iload_n 3, (1270, 1, 873), [], []),
   (.iconst 1, (1271, 1, 874), [], []),
   (.iadd, (1272, 1, 875), [0], []),
   (.iaload, (1273, 1, 876), [], []),
   (.aload_n 0, (1274, 1, 877), [], []),
   (.iload_n 3, (1275, 1, 878), [], []),
   (.iconst 2, (1276, 1, 879), [], []),
   (.iadd, (1277, 1, 880), [0], [])]
def rw_L_law_c55 : List xq_Row := [(.iaload, (1278, 1, 881), [], []),
   (.aload_n 0, (1279, 1, 882), [], []),
   (.iload_n 3, (1280, 1, 883), [], []),
   (.iconst 3, (1281, 1, 884), [], []),
   (.iadd, (1282, 1, 885), [0], []),
   (.iaload, (1283, 1, 886), [], []),
   (.invokevirtual 157, (1284, 3, 887), [114, 3, 0, 9, 0, 904, 905, 906, 907, 69], []),
   (.aload_n 2, (1287, 1, 888), [], []),
   (.aload_n 0, (1288, 1, 889), [], []),
   (.iload_n 3, (1289, 1, 890), [], []),
   (.iconst 1, (1290, 1, 891), [], []),
   (.iadd, (1291, 1, 892), [0], []),
   (.iaload, (1292, 1, 893), [], []),
   (.aload_n 0, (1293, 1, 894), [], []),
   (.iload_n 3, (1294, 1, 895), [], []),
   (.iconst 2, (1295, 1, 896), [], [])]
def rw_L_law_c56 : List xq_Row := [(.iadd, (1296, 1, 897), [0], []),
   (.iaload, (1297, 1, 898), [], []),
   (.aload_n 0, (1298, 1, 899), [], []),
   (.iload_n 3, (1299, 1, 900), [], []),
   (.iconst 3, (1300, 1, 901), [], []),
   (.iadd, (1301, 1, 902), [0], []),
   (.iaload, (1302, 1, 903), [], []),
   (.invokevirtual 160, (1303, 3, 904), [224, 3, 0, 10, 0, 1399, 1400, 1401, 1402, 79], []),
   (.if_icmp .eq 110, (1306, 3, 905), [982], []),
   (.iconst 0, (1309, 1, 906), [], []),
   (.ireturn, (1310, 1, 907), [1], []),
   (.aload_n 1, (1311, 1, 908), [], []),
   (.aload_n 0, (1312, 1, 909), [], []),
   (.iload_n 3, (1313, 1, 910), [], []),
   (.iconst 1, (1314, 1, 911), [], []),
   (.iadd, (1315, 1, 912), [0], [])]
def rw_L_law_c57 : List xq_Row := [(.iaload, (1316, 1, 913), [], []),
   (.invokevirtual 161, (1317, 3, 914), [115, 1, 0, 9, 0, 931, 932, 933, 934, 69], []),
   (.aload_n 2, (1320, 1, 915), [], []),
   (.aload_n 0, (1321, 1, 916), [], []),
   (.iload_n 3, (1322, 1, 917), [], []),
   (.iconst 1, (1323, 1, 918), [], []),
   (.iadd, (1324, 1, 919), [0], []),
   (.iaload, (1325, 1, 920), [], []),
   (.invokevirtual 164, (1326, 3, 921), [225, 1, 0, 10, 0, 1434, 1435, 1436, 1437, 79], []),
   (.if_icmp .eq 87, (1329, 3, 922), [982], []),
   (.iconst 0, (1332, 1, 923), [], []),
   (.ireturn, (1333, 1, 924), [1], []),
   (.aload_n 1, (1334, 1, 925), [], []),
   (.aload_n 0, (1335, 1, 926), [], []),
   (.iload_n 3, (1336, 1, 927), [], []),
   (.iconst 1, (1337, 1, 928), [], [])]
def rw_L_law_c58 : List xq_Row := [(.iadd, (1338, 1, 929), [0], []),
   (.iaload, (1339, 1, 930), [], []),
   (.aload_n 0, (1340, 1, 931), [], []),
   (.iload_n 3, (1341, 1, 932), [], []),
   (.iconst 2, (1342, 1, 933), [], []),
   (.iadd, (1343, 1, 934), [0], []),
   (.iaload, (1344, 1, 935), [], []),
   (.invokevirtual 165, (1345, 3, 936), [116, 2, 0, 9, 0, 935, 936, 937, 938, 69], []),
   (.aload_n 2, (1348, 1, 937), [], []),
   (.aload_n 0, (1349, 1, 938), [], []),
   (.iload_n 3, (1350, 1, 939), [], []),
   (.iconst 1, (1351, 1, 940), [], []),
   (.iadd, (1352, 1, 941), [0], []),
   (.iaload, (1353, 1, 942), [], []),
   (.aload_n 0, (1354, 1, 943), [], []),
   (.iload_n 3, (1355, 1, 944), [], [])]
def rw_L_law_c59 : List xq_Row := [(.iconst 2, (1356, 1, 945), [], []),
   (.iadd, (1357, 1, 946), [0], []),
   (.iaload, (1358, 1, 947), [], []),
   (.invokevirtual 168, (1359, 3, 948), [226, 2, 0, 10, 0, 1438, 1439, 1440, 1441, 79], []),
   (.if_icmp .eq 54, (1362, 3, 949), [982], []),
   (.iconst 0, (1365, 1, 950), [], []),
   (.ireturn, (1366, 1, 951), [1], []),
   (.aload_n 1, (1367, 1, 952), [], []),
   (.invokevirtual 169, (1368, 3, 953), [117, 0, 0, 9, 0, 943, 944, 945, 946, 69], []),
   (.aload_n 2, (1371, 1, 954), [], []),
   (.invokevirtual 172, (1372, 3, 955), [227, 0, 0, 10, 0, 1442, 1443, 1444, 1445, 79], []),
   (.if_icmp .eq 41, (1375, 3, 956), [982], []),
   (.iconst 0, (1378, 1, 957), [], []),
   (.ireturn, (1379, 1, 958), [1], []),
   (.aload_n 1, (1380, 1, 959), [], []),
   (.invokevirtual 173, (1381, 3, 960), [118, 0, 0, 9, 0, 973, 974, 975, 976, 69], [])]
def rw_L_law_c60 : List xq_Row := [(.aload_n 2, (1384, 1, 961), [], []),
   (.invokevirtual 176, (1385, 3, 962), [228, 0, 0, 10, 0, 1446, 1447, 1448, 1449, 79], []),
   (.if_icmp .eq 28, (1388, 3, 963), [982], []),
   (.iconst 0, (1391, 1, 964), [], []),
   (.ireturn, (1392, 1, 965), [1], []),
   (.aload_n 1, (1393, 1, 966), [], []),
   (.aload_n 0, (1394, 1, 967), [], []),
   (.iload_n 3, (1395, 1, 968), [], []),
   (.iconst 1, (1396, 1, 969), [], []),
   (.iadd, (1397, 1, 970), [0], []),
   (.iaload, (1398, 1, 971), [], []),
   (.invokevirtual 177, (1399, 3, 972), [119, 1, 0, 9, 0, 977, 978, 979, 980, 69], []),
   (.aload_n 2, (1402, 1, 973), [], []),
   (.aload_n 0, (1403, 1, 974), [], []),
   (.iload_n 3, (1404, 1, 975), [], []),
   (.iconst 1, (1405, 1, 976), [], [])]
def rw_L_law_c61 : List xq_Row := [(.iadd, (1406, 1, 977), [0], []),
   (.iaload, (1407, 1, 978), [], []),
   (.invokevirtual 180, (1408, 3, 979), [229, 1, 0, 10, 0, 1450, 1451, 1452, 1453, 79], []),
   (.if_icmp .eq 5, (1411, 3, 980), [982], []),
   (.iconst 0, (1414, 1, 981), [], []),
   (.ireturn, (1415, 1, 982), [1], []),
   (.iinc 3 5, (1416, 3, 983), [], []),
   (.goto (-1401), (1419, 3, 984), [10], []),
   (.iconst 1, (1422, 1, 985), [], []),
   (.ireturn, (1423, 1, 986), [1], [])]
def rw_L_law : List (List xq_Row) := [rw_L_law_c0, rw_L_law_c1, rw_L_law_c2, rw_L_law_c3, rw_L_law_c4, rw_L_law_c5, rw_L_law_c6, rw_L_law_c7, rw_L_law_c8, rw_L_law_c9, rw_L_law_c10, rw_L_law_c11, rw_L_law_c12, rw_L_law_c13, rw_L_law_c14, rw_L_law_c15, rw_L_law_c16, rw_L_law_c17, rw_L_law_c18, rw_L_law_c19, rw_L_law_c20, rw_L_law_c21, rw_L_law_c22, rw_L_law_c23, rw_L_law_c24, rw_L_law_c25, rw_L_law_c26, rw_L_law_c27, rw_L_law_c28, rw_L_law_c29, rw_L_law_c30, rw_L_law_c31, rw_L_law_c32, rw_L_law_c33, rw_L_law_c34, rw_L_law_c35, rw_L_law_c36, rw_L_law_c37, rw_L_law_c38, rw_L_law_c39, rw_L_law_c40, rw_L_law_c41, rw_L_law_c42, rw_L_law_c43, rw_L_law_c44, rw_L_law_c45, rw_L_law_c46, rw_L_law_c47, rw_L_law_c48, rw_L_law_c49, rw_L_law_c50, rw_L_law_c51, rw_L_law_c52, rw_L_law_c53, rw_L_law_c54, rw_L_law_c55, rw_L_law_c56, rw_L_law_c57, rw_L_law_c58, rw_L_law_c59, rw_L_law_c60, rw_L_law_c61]
end
section
theorem ok_JM_min : xq_okM prog_15_method_69_code "java/lang/Math" false (Option.some Jvm.ClassFile.FieldType.int) rw_JM_min = true := by decide +kernel
theorem ok_JM_max : xq_okM prog_15_method_65_code "java/lang/Math" false (Option.some Jvm.ClassFile.FieldType.int) rw_JM_max = true := by decide +kernel
theorem ok_JM_floorMod : xq_okM prog_15_method_50_code "java/lang/Math" false (Option.some Jvm.ClassFile.FieldType.int) rw_JM_floorMod = true := by decide +kernel
theorem ok_JI_bitCount : xq_okM prog_14_method_49_code "java/lang/Integer" false (Option.some Jvm.ClassFile.FieldType.int) rw_JI_bitCount = true := by decide +kernel
theorem ok_JS_length : xq_okM prog_16_method_54_code "java/lang/String" false (Option.some Jvm.ClassFile.FieldType.int) rw_JS_length = true := by decide +kernel
theorem ok_JS_coder : xq_okM prog_16_method_152_code "java/lang/String" false (Option.some Jvm.ClassFile.FieldType.byte) rw_JS_coder = true := by decide +kernel
theorem ok_JS_isLatin1 : xq_okM prog_16_method_154_code "java/lang/String" false (Option.some Jvm.ClassFile.FieldType.boolean) rw_JS_isLatin1 = true := by decide +kernel
theorem ok_JS_charAt : xq_okM prog_16_method_56_code "java/lang/String" false (Option.some Jvm.ClassFile.FieldType.char) rw_JS_charAt = true := by decide +kernel
theorem ok_JS_checkIndex : xq_okM prog_16_method_155_code "java/lang/String" false (Option.none : Option Jvm.ClassFile.FieldType) rw_JS_checkIndex = true := by decide +kernel
theorem ok_JS_indexOf : xq_okM prog_16_method_79_code "java/lang/String" false (Option.some Jvm.ClassFile.FieldType.int) rw_JS_indexOf = true := by decide +kernel
theorem ok_JS_indexOf2 : xq_okM prog_16_method_80_code "java/lang/String" false (Option.some Jvm.ClassFile.FieldType.int) rw_JS_indexOf2 = true := by decide +kernel
theorem ok_JL_charAt : xq_okM prog_17_method_2_code "java/lang/StringLatin1" false (Option.some Jvm.ClassFile.FieldType.char) rw_JL_charAt = true := by decide +kernel
theorem ok_JL_canEncode : xq_okM prog_17_method_4_code "java/lang/StringLatin1" false (Option.some Jvm.ClassFile.FieldType.boolean) rw_JL_canEncode = true := by decide +kernel
theorem ok_JL_indexOf : xq_okM prog_17_method_22_code "java/lang/StringLatin1" false (Option.some Jvm.ClassFile.FieldType.int) rw_JL_indexOf = true := by decide +kernel
theorem ok_JL_indexOfChar : xq_okM prog_17_method_23_code "java/lang/StringLatin1" false (Option.some Jvm.ClassFile.FieldType.int) rw_JL_indexOfChar = true := by decide +kernel
theorem ok_JP_checkIndex : xq_okM prog_19_method_11_code "jdk/internal/util/Preconditions" false (Option.some Jvm.ClassFile.FieldType.int) rw_JP_checkIndex = true := by decide +kernel
theorem ok_A_init : xq_okM prog_2_method_1_code "PutBack$Acts" true (Option.none : Option Jvm.ClassFile.FieldType) rw_A_init = true := by decide +kernel
theorem ok_A_forget : xq_okM prog_2_method_2_code "PutBack$Acts" false (Option.none : Option Jvm.ClassFile.FieldType) rw_A_forget = true := by decide +kernel
theorem ok_A_start : xq_okM prog_2_method_3_code "PutBack$Acts" false (Option.some Jvm.ClassFile.FieldType.int) rw_A_start = true := by decide +kernel
theorem ok_A_run : xq_okM prog_2_method_4_code "PutBack$Acts" false (Option.some Jvm.ClassFile.FieldType.int) rw_A_run = true := by decide +kernel
theorem ok_A_holderOf : xq_okM prog_2_method_5_code "PutBack$Acts" false (Option.some Jvm.ClassFile.FieldType.int) rw_A_holderOf = true := by decide +kernel
theorem ok_A_begin : xq_okM prog_2_method_6_code "PutBack$Acts" false (Option.none : Option Jvm.ClassFile.FieldType) rw_A_begin = true := by decide +kernel
theorem ok_B_init : xq_okM prog_3_method_1_code "PutBack$Book" true (Option.none : Option Jvm.ClassFile.FieldType) rw_B_init = true := by decide +kernel
theorem ok_B_add : xq_okM prog_3_method_2_code "PutBack$Book" false (Option.some Jvm.ClassFile.FieldType.boolean) rw_B_add = true := by decide +kernel
theorem ok_B_copy : xq_okM prog_3_method_3_code "PutBack$Book" false (Option.none : Option Jvm.ClassFile.FieldType) rw_B_copy = true := by decide +kernel
theorem ok_C_init : xq_okM prog_4_method_1_code "PutBack$Crew" true (Option.none : Option Jvm.ClassFile.FieldType) rw_C_init = true := by decide +kernel
theorem ok_C_has : xq_okM prog_4_method_2_code "PutBack$Crew" false (Option.some Jvm.ClassFile.FieldType.boolean) rw_C_has = true := by decide +kernel
theorem ok_C_add : xq_okM prog_4_method_3_code "PutBack$Crew" false (Option.some Jvm.ClassFile.FieldType.boolean) rw_C_add = true := by decide +kernel
theorem ok_C_copy : xq_okM prog_4_method_4_code "PutBack$Crew" false (Option.none : Option Jvm.ClassFile.FieldType) rw_C_copy = true := by decide +kernel
theorem ok_K_init : xq_okM prog_5_method_1_code "PutBack$Maker" true (Option.none : Option Jvm.ClassFile.FieldType) rw_K_init = true := by decide +kernel
theorem ok_K_settle : xq_okM prog_5_method_2_code "PutBack$Maker" false (Option.none : Option Jvm.ClassFile.FieldType) rw_K_settle = true := by decide +kernel
theorem ok_K_typeOnce : xq_okM prog_5_method_3_code "PutBack$Maker" false (Option.some Jvm.ClassFile.FieldType.int) rw_K_typeOnce = true := by decide +kernel
theorem ok_K_madeOf : xq_okM prog_5_method_4_code "PutBack$Maker" false (Option.some Jvm.ClassFile.FieldType.int) rw_K_madeOf = true := by decide +kernel
theorem ok_K_costOf : xq_okM prog_5_method_5_code "PutBack$Maker" false (Option.some Jvm.ClassFile.FieldType.int) rw_K_costOf = true := by decide +kernel
theorem ok_K_priceOf : xq_okM prog_5_method_6_code "PutBack$Maker" false (Option.some Jvm.ClassFile.FieldType.int) rw_K_priceOf = true := by decide +kernel
theorem ok_K_plainFar : xq_okM prog_5_method_7_code "PutBack$Maker" false (Option.some Jvm.ClassFile.FieldType.int) rw_K_plainFar = true := by decide +kernel
theorem ok_K_slipsInto : xq_okM prog_5_method_8_code "PutBack$Maker" false (Option.some Jvm.ClassFile.FieldType.int) rw_K_slipsInto = true := by decide +kernel
theorem ok_K_kindOf : xq_okM prog_5_method_9_code "PutBack$Maker" false (Option.some Jvm.ClassFile.FieldType.int) rw_K_kindOf = true := by decide +kernel
theorem ok_K_spread : xq_okM prog_5_method_10_code "PutBack$Maker" false (Option.none : Option Jvm.ClassFile.FieldType) rw_K_spread = true := by decide +kernel
theorem ok_K_spreadCost : xq_okM prog_5_method_11_code "PutBack$Maker" false (Option.some Jvm.ClassFile.FieldType.int) rw_K_spreadCost = true := by decide +kernel
theorem ok_K_factsOf : xq_okM prog_5_method_12_code "PutBack$Maker" false (Option.some (Jvm.ClassFile.FieldType.array Jvm.ClassFile.FieldType.int)) rw_K_factsOf = true := by decide +kernel
theorem ok_K_spreadFar : xq_okM prog_5_method_13_code "PutBack$Maker" false (Option.some Jvm.ClassFile.FieldType.int) rw_K_spreadFar = true := by decide +kernel
theorem ok_K_isBeginning : xq_okM prog_5_method_14_code "PutBack$Maker" false (Option.some Jvm.ClassFile.FieldType.boolean) rw_K_isBeginning = true := by decide +kernel
theorem ok_K_leastSum : xq_okM prog_5_method_15_code "PutBack$Maker" false (Option.some Jvm.ClassFile.FieldType.int) rw_K_leastSum = true := by decide +kernel
theorem ok_P_init : xq_okM prog_6_method_1_code "PutBack$Phone" true (Option.none : Option Jvm.ClassFile.FieldType) rw_P_init = true := by decide +kernel
theorem ok_P_clear : xq_okM prog_6_method_2_code "PutBack$Phone" false (Option.none : Option Jvm.ClassFile.FieldType) rw_P_clear = true := by decide +kernel
theorem ok_P_put : xq_okM prog_6_method_3_code "PutBack$Phone" false (Option.none : Option Jvm.ClassFile.FieldType) rw_P_put = true := by decide +kernel
theorem ok_P_close : xq_okM prog_6_method_4_code "PutBack$Phone" false (Option.none : Option Jvm.ClassFile.FieldType) rw_P_close = true := by decide +kernel
theorem ok_P_extra : xq_okM prog_6_method_5_code "PutBack$Phone" false (Option.some Jvm.ClassFile.FieldType.int) rw_P_extra = true := by decide +kernel
theorem ok_P_holds : xq_okM prog_6_method_6_code "PutBack$Phone" false (Option.some Jvm.ClassFile.FieldType.boolean) rw_P_holds = true := by decide +kernel
theorem ok_P_passes : xq_okM prog_6_method_7_code "PutBack$Phone" false (Option.some Jvm.ClassFile.FieldType.boolean) rw_P_passes = true := by decide +kernel
theorem ok_P_copy : xq_okM prog_6_method_8_code "PutBack$Phone" false (Option.none : Option Jvm.ClassFile.FieldType) rw_P_copy = true := by decide +kernel
theorem ok_R_init : xq_okM prog_7_method_1_code "PutBack$Reader" true (Option.none : Option Jvm.ClassFile.FieldType) rw_R_init = true := by decide +kernel
theorem ok_R_faultOf : xq_okM prog_7_method_2_code "PutBack$Reader" false (Option.some Jvm.ClassFile.FieldType.int) rw_R_faultOf = true := by decide +kernel
theorem ok_R_peek : xq_okM prog_7_method_3_code "PutBack$Reader" false (Option.some Jvm.ClassFile.FieldType.int) rw_R_peek = true := by decide +kernel
theorem ok_R_readSign : xq_okM prog_7_method_4_code "PutBack$Reader" false (Option.some Jvm.ClassFile.FieldType.boolean) rw_R_readSign = true := by decide +kernel
theorem ok_R_readName : xq_okM prog_7_method_5_code "PutBack$Reader" false (Option.some Jvm.ClassFile.FieldType.boolean) rw_R_readName = true := by decide +kernel
theorem ok_R_readClause : xq_okM prog_7_method_6_code "PutBack$Reader" false (Option.some Jvm.ClassFile.FieldType.boolean) rw_R_readClause = true := by decide +kernel
theorem ok_R_nameBy : xq_okM prog_7_method_7_code "PutBack$Reader" false (Option.some (Jvm.ClassFile.FieldType.object "java/lang/String")) rw_R_nameBy = true := by decide +kernel
theorem ok_R_readNumber : xq_okM prog_7_method_8_code "PutBack$Reader" false (Option.some Jvm.ClassFile.FieldType.int) rw_R_readNumber = true := by decide +kernel
theorem ok_R_readEither : xq_okM prog_7_method_9_code "PutBack$Reader" false (Option.some Jvm.ClassFile.FieldType.boolean) rw_R_readEither = true := by decide +kernel
theorem ok_R_readFactor : xq_okM prog_7_method_10_code "PutBack$Reader" false (Option.some Jvm.ClassFile.FieldType.boolean) rw_R_readFactor = true := by decide +kernel
theorem ok_R_readTest : xq_okM prog_7_method_11_code "PutBack$Reader" false (Option.some Jvm.ClassFile.FieldType.boolean) rw_R_readTest = true := by decide +kernel
theorem ok_R_readOneOf : xq_okM prog_7_method_12_code "PutBack$Reader" false (Option.some Jvm.ClassFile.FieldType.int) rw_R_readOneOf = true := by decide +kernel
theorem ok_S_init : xq_okM prog_8_method_1_code "PutBack$State" true (Option.none : Option Jvm.ClassFile.FieldType) rw_S_init = true := by decide +kernel
theorem ok_S_copy : xq_okM prog_8_method_2_code "PutBack$State" false (Option.none : Option Jvm.ClassFile.FieldType) rw_S_copy = true := by decide +kernel
theorem ok_T_init : xq_okM prog_9_method_1_code "PutBack$Text" true (Option.none : Option Jvm.ClassFile.FieldType) rw_T_init = true := by decide +kernel
theorem ok_T_add : xq_okM prog_9_method_2_code "PutBack$Text" false (Option.none : Option Jvm.ClassFile.FieldType) rw_T_add = true := by decide +kernel
theorem ok_T_last : xq_okM prog_9_method_3_code "PutBack$Text" false (Option.some Jvm.ClassFile.FieldType.int) rw_T_last = true := by decide +kernel
theorem ok_T_takeBack : xq_okM prog_9_method_4_code "PutBack$Text" false (Option.some Jvm.ClassFile.FieldType.boolean) rw_T_takeBack = true := by decide +kernel
theorem ok_T_isLeft : xq_okM prog_9_method_5_code "PutBack$Text" false (Option.some Jvm.ClassFile.FieldType.boolean) rw_T_isLeft = true := by decide +kernel
theorem ok_T_copy : xq_okM prog_9_method_6_code "PutBack$Text" false (Option.none : Option Jvm.ClassFile.FieldType) rw_T_copy = true := by decide +kernel
theorem ok_W_init : xq_okM prog_10_method_1_code "PutBack$Words" true (Option.none : Option Jvm.ClassFile.FieldType) rw_W_init = true := by decide +kernel
theorem ok_W_has : xq_okM prog_10_method_2_code "PutBack$Words" false (Option.some Jvm.ClassFile.FieldType.boolean) rw_W_has = true := by decide +kernel
theorem ok_W_add : xq_okM prog_10_method_3_code "PutBack$Words" false (Option.some Jvm.ClassFile.FieldType.boolean) rw_W_add = true := by decide +kernel
theorem ok_W_numberOf : xq_okM prog_10_method_4_code "PutBack$Words" false (Option.some Jvm.ClassFile.FieldType.int) rw_W_numberOf = true := by decide +kernel
end
section
theorem ok_W_begins : xq_okM prog_10_method_5_code "PutBack$Words" false (Option.some Jvm.ClassFile.FieldType.boolean) rw_W_begins = true := by decide +kernel
theorem ok_W_aheadOf : xq_okM prog_10_method_6_code "PutBack$Words" false (Option.some Jvm.ClassFile.FieldType.int) rw_W_aheadOf = true := by decide +kernel
theorem ok_W_copy : xq_okM prog_10_method_7_code "PutBack$Words" false (Option.none : Option Jvm.ClassFile.FieldType) rw_W_copy = true := by decide +kernel
theorem ok_X_init : xq_okM prog_1_method_1_code "PutBack" true (Option.none : Option Jvm.ClassFile.FieldType) rw_X_init = true := by decide +kernel
theorem ok_X_feed : xq_okM prog_1_method_2_code "PutBack" false (Option.some Jvm.ClassFile.FieldType.int) rw_X_feed = true := by decide +kernel
theorem ok_X_telephone : xq_okM prog_1_method_3_code "PutBack" false (Option.some Jvm.ClassFile.FieldType.int) rw_X_telephone = true := by decide +kernel
theorem ok_X_word : xq_okM prog_1_method_4_code "PutBack" false (Option.some Jvm.ClassFile.FieldType.int) rw_X_word = true := by decide +kernel
theorem ok_X_listed : xq_okM prog_1_method_5_code "PutBack" false (Option.some Jvm.ClassFile.FieldType.int) rw_X_listed = true := by decide +kernel
theorem ok_X_weigh : xq_okM prog_1_method_6_code "PutBack" false (Option.some Jvm.ClassFile.FieldType.int) rw_X_weigh = true := by decide +kernel
theorem ok_X_behind : xq_okM prog_1_method_7_code "PutBack" false (Option.some Jvm.ClassFile.FieldType.int) rw_X_behind = true := by decide +kernel
theorem ok_X_mender : xq_okM prog_1_method_8_code "PutBack" false (Option.some Jvm.ClassFile.FieldType.int) rw_X_mender = true := by decide +kernel
theorem ok_X_of : xq_okM prog_1_method_9_code "PutBack" false (Option.some Jvm.ClassFile.FieldType.int) rw_X_of = true := by decide +kernel
theorem ok_X_row : xq_okM prog_1_method_10_code "PutBack" false (Option.some Jvm.ClassFile.FieldType.int) rw_X_row = true := by decide +kernel
theorem ok_X_type : xq_okM prog_1_method_11_code "PutBack" false (Option.some Jvm.ClassFile.FieldType.int) rw_X_type = true := by decide +kernel
theorem ok_X_back : xq_okM prog_1_method_12_code "PutBack" false (Option.some Jvm.ClassFile.FieldType.int) rw_X_back = true := by decide +kernel
theorem ok_X_send : xq_okM prog_1_method_13_code "PutBack" false (Option.some Jvm.ClassFile.FieldType.int) rw_X_send = true := by decide +kernel
theorem ok_X_told : xq_okM prog_1_method_14_code "PutBack" false (Option.some Jvm.ClassFile.FieldType.int) rw_X_told = true := by decide +kernel
theorem ok_X_makes : xq_okM prog_1_method_15_code "PutBack" false (Option.some Jvm.ClassFile.FieldType.int) rw_X_makes = true := by decide +kernel
theorem ok_X_cost : xq_okM prog_1_method_16_code "PutBack" false (Option.some Jvm.ClassFile.FieldType.int) rw_X_cost = true := by decide +kernel
theorem ok_X_stays : xq_okM prog_1_method_17_code "PutBack" false (Option.some Jvm.ClassFile.FieldType.int) rw_X_stays = true := by decide +kernel
theorem ok_X_touches : xq_okM prog_1_method_18_code "PutBack" false (Option.some Jvm.ClassFile.FieldType.int) rw_X_touches = true := by decide +kernel
theorem ok_X_never : xq_okM prog_1_method_19_code "PutBack" false (Option.some Jvm.ClassFile.FieldType.int) rw_X_never = true := by decide +kernel
theorem ok_X_round : xq_okM prog_1_method_20_code "PutBack" false (Option.some Jvm.ClassFile.FieldType.int) rw_X_round = true := by decide +kernel
theorem ok_X_stands : xq_okM prog_1_method_21_code "PutBack" false (Option.some Jvm.ClassFile.FieldType.int) rw_X_stands = true := by decide +kernel
theorem ok_X_guess : xq_okM prog_1_method_22_code "PutBack" false (Option.some Jvm.ClassFile.FieldType.int) rw_X_guess = true := by decide +kernel
theorem ok_X_letter : xq_okM prog_1_method_23_code "PutBack" false (Option.some Jvm.ClassFile.FieldType.int) rw_X_letter = true := by decide +kernel
theorem ok_X_enough : xq_okM prog_1_method_24_code "PutBack" false (Option.some Jvm.ClassFile.FieldType.int) rw_X_enough = true := by decide +kernel
theorem ok_X_slips : xq_okM prog_1_method_25_code "PutBack" false (Option.some Jvm.ClassFile.FieldType.long) rw_X_slips = true := by decide +kernel
theorem ok_X_wrong : xq_okM prog_1_method_26_code "PutBack" false (Option.some Jvm.ClassFile.FieldType.long) rw_X_wrong = true := by decide +kernel
theorem ok_X_chain : xq_okM prog_1_method_27_code "PutBack" false (Option.some Jvm.ClassFile.FieldType.int) rw_X_chain = true := by decide +kernel
theorem ok_X_meant : xq_okM prog_1_method_28_code "PutBack" false (Option.some Jvm.ClassFile.FieldType.int) rw_X_meant = true := by decide +kernel
theorem ok_X_likeliest : xq_okM prog_1_method_29_code "PutBack" false (Option.some Jvm.ClassFile.FieldType.int) rw_X_likeliest = true := by decide +kernel
theorem ok_X_who : xq_okM prog_1_method_30_code "PutBack" false (Option.some Jvm.ClassFile.FieldType.int) rw_X_who = true := by decide +kernel
theorem ok_X_twins : xq_okM prog_1_method_31_code "PutBack" false (Option.some Jvm.ClassFile.FieldType.int) rw_X_twins = true := by decide +kernel
theorem ok_X_room : xq_okM prog_1_method_32_code "PutBack" false (Option.some Jvm.ClassFile.FieldType.int) rw_X_room = true := by decide +kernel
theorem ok_X_saved : xq_okM prog_1_method_33_code "PutBack" false (Option.some Jvm.ClassFile.FieldType.int) rw_X_saved = true := by decide +kernel
theorem ok_X_book : xq_okM prog_1_method_34_code "PutBack" false (Option.some Jvm.ClassFile.FieldType.int) rw_X_book = true := by decide +kernel
theorem ok_X_looked : xq_okM prog_1_method_35_code "PutBack" false (Option.some Jvm.ClassFile.FieldType.int) rw_X_looked = true := by decide +kernel
theorem ok_X_act : xq_okM prog_1_method_36_code "PutBack" false (Option.some Jvm.ClassFile.FieldType.int) rw_X_act = true := by decide +kernel
theorem ok_X_trace : xq_okM prog_1_method_37_code "PutBack" false (Option.some Jvm.ClassFile.FieldType.int) rw_X_trace = true := by decide +kernel
theorem ok_X_as : xq_okM prog_1_method_38_code "PutBack" false (Option.some Jvm.ClassFile.FieldType.int) rw_X_as = true := by decide +kernel
theorem ok_X_image : xq_okM prog_1_method_39_code "PutBack" false (Option.some Jvm.ClassFile.FieldType.int) rw_X_image = true := by decide +kernel
theorem ok_X_undo : xq_okM prog_1_method_40_code "PutBack" false (Option.some Jvm.ClassFile.FieldType.int) rw_X_undo = true := by decide +kernel
theorem ok_X_count : xq_okM prog_1_method_41_code "PutBack" false (Option.some Jvm.ClassFile.FieldType.int) rw_X_count = true := by decide +kernel
theorem ok_X_refusalOf : xq_okM prog_1_method_42_code "PutBack" false (Option.some Jvm.ClassFile.FieldType.int) rw_X_refusalOf = true := by decide +kernel
theorem ok_X_staysOne : xq_okM prog_1_method_43_code "PutBack" false (Option.some Jvm.ClassFile.FieldType.boolean) rw_X_staysOne = true := by decide +kernel
theorem ok_X_wayTo : xq_okM prog_1_method_44_code "PutBack" false (Option.some Jvm.ClassFile.FieldType.int) rw_X_wayTo = true := by decide +kernel
theorem ok_X_shortWays : xq_okM prog_1_method_45_code "PutBack" false (Option.some Jvm.ClassFile.FieldType.int) rw_X_shortWays = true := by decide +kernel
theorem ok_X_runChain : xq_okM prog_1_method_46_code "PutBack" false (Option.some Jvm.ClassFile.FieldType.int) rw_X_runChain = true := by decide +kernel
theorem ok_X_waysFrom : xq_okM prog_1_method_47_code "PutBack" false (Option.some Jvm.ClassFile.FieldType.int) rw_X_waysFrom = true := by decide +kernel
theorem ok_X_isAt : xq_okM prog_1_method_48_code "PutBack" false (Option.some Jvm.ClassFile.FieldType.boolean) rw_X_isAt = true := by decide +kernel
theorem ok_X_copyInts : xq_okM prog_1_method_49_code "PutBack" false (Option.none : Option Jvm.ClassFile.FieldType) rw_X_copyInts = true := by decide +kernel
theorem ok_X_unlikeOf : xq_okM prog_1_method_50_code "PutBack" false (Option.some Jvm.ClassFile.FieldType.int) rw_X_unlikeOf = true := by decide +kernel
theorem ok_X_isUnder : xq_okM prog_1_method_51_code "PutBack" false (Option.some Jvm.ClassFile.FieldType.boolean) rw_X_isUnder = true := by decide +kernel
theorem ok_X_isWord : xq_okM prog_1_method_52_code "PutBack" false (Option.some Jvm.ClassFile.FieldType.boolean) rw_X_isWord = true := by decide +kernel
theorem ok_X_lettersOf : xq_okM prog_1_method_53_code "PutBack" false (Option.some Jvm.ClassFile.FieldType.int) rw_X_lettersOf = true := by decide +kernel
theorem ok_X_withoutLast : xq_okM prog_1_method_54_code "PutBack" false (Option.some Jvm.ClassFile.FieldType.int) rw_X_withoutLast = true := by decide +kernel
theorem ok_X_isNear : xq_okM prog_1_method_55_code "PutBack" false (Option.some Jvm.ClassFile.FieldType.boolean) rw_X_isNear = true := by decide +kernel
theorem ok_X_slipsOf : xq_okM prog_1_method_56_code "PutBack" false (Option.some Jvm.ClassFile.FieldType.int) rw_X_slipsOf = true := by decide +kernel
theorem ok_X_partOf : xq_okM prog_1_method_57_code "PutBack" false (Option.some Jvm.ClassFile.FieldType.long) rw_X_partOf = true := by decide +kernel
theorem ok_M_init : xq_okM prog_12_method_1_code "PutBackModel" true (Option.none : Option Jvm.ClassFile.FieldType) rw_M_init = true := by decide +kernel
theorem ok_M_in : xq_okM prog_12_method_3_code "PutBackModel" false (Option.some Jvm.ClassFile.FieldType.boolean) rw_M_in = true := by decide +kernel
theorem ok_M_isMender : xq_okM prog_12_method_4_code "PutBackModel" false (Option.some Jvm.ClassFile.FieldType.boolean) rw_M_isMender = true := by decide +kernel
theorem ok_M_isListed : xq_okM prog_12_method_5_code "PutBackModel" false (Option.some Jvm.ClassFile.FieldType.boolean) rw_M_isListed = true := by decide +kernel
theorem ok_M_isWord : xq_okM prog_12_method_6_code "PutBackModel" false (Option.some Jvm.ClassFile.FieldType.boolean) rw_M_isWord = true := by decide +kernel
theorem ok_M_size : xq_okM prog_12_method_7_code "PutBackModel" false (Option.some Jvm.ClassFile.FieldType.int) rw_M_size = true := by decide +kernel
theorem ok_M_first : xq_okM prog_12_method_8_code "PutBackModel" false (Option.some Jvm.ClassFile.FieldType.int) rw_M_first = true := by decide +kernel
theorem ok_M_keeps : xq_okM prog_12_method_9_code "PutBackModel" false (Option.none : Option Jvm.ClassFile.FieldType) rw_M_keeps = true := by decide +kernel
theorem ok_M_goesBack : xq_okM prog_12_method_10_code "PutBackModel" false (Option.none : Option Jvm.ClassFile.FieldType) rw_M_goesBack = true := by decide +kernel
theorem ok_M_feed : xq_okM prog_12_method_11_code "PutBackModel" false (Option.some Jvm.ClassFile.FieldType.int) rw_M_feed = true := by decide +kernel
theorem ok_M_here : xq_okM prog_12_method_12_code "PutBackModel" false (Option.some Jvm.ClassFile.FieldType.int) rw_M_here = true := by decide +kernel
theorem ok_M_must : xq_okM prog_12_method_13_code "PutBackModel" false (Option.none : Option Jvm.ClassFile.FieldType) rw_M_must = true := by decide +kernel
theorem ok_M_spells : xq_okM prog_12_method_14_code "PutBackModel" false (Option.none : Option Jvm.ClassFile.FieldType) rw_M_spells = true := by decide +kernel
theorem ok_M_figures : xq_okM prog_12_method_15_code "PutBackModel" false (Option.some Jvm.ClassFile.FieldType.int) rw_M_figures = true := by decide +kernel
theorem ok_M_among : xq_okM prog_12_method_16_code "PutBackModel" false (Option.some Jvm.ClassFile.FieldType.int) rw_M_among = true := by decide +kernel
theorem ok_M_emits : xq_okM prog_12_method_17_code "PutBackModel" false (Option.none : Option Jvm.ClassFile.FieldType) rw_M_emits = true := by decide +kernel
theorem ok_M_factor : xq_okM prog_12_method_18_code "PutBackModel" false (Option.none : Option Jvm.ClassFile.FieldType) rw_M_factor = true := by decide +kernel
end
section
theorem ok_M_every : xq_okM prog_12_method_19_code "PutBackModel" false (Option.none : Option Jvm.ClassFile.FieldType) rw_M_every = true := by decide +kernel
theorem ok_M_some : xq_okM prog_12_method_20_code "PutBackModel" false (Option.none : Option Jvm.ClassFile.FieldType) rw_M_some = true := by decide +kernel
theorem ok_M_much : xq_okM prog_12_method_21_code "PutBackModel" false (Option.none : Option Jvm.ClassFile.FieldType) rw_M_much = true := by decide +kernel
theorem ok_M_tellsHere : xq_okM prog_12_method_22_code "PutBackModel" false (Option.none : Option Jvm.ClassFile.FieldType) rw_M_tellsHere = true := by decide +kernel
theorem ok_M_clauseHere : xq_okM prog_12_method_23_code "PutBackModel" false (Option.none : Option Jvm.ClassFile.FieldType) rw_M_clauseHere = true := by decide +kernel
theorem ok_M_telephone : xq_okM prog_12_method_24_code "PutBackModel" false (Option.some Jvm.ClassFile.FieldType.int) rw_M_telephone = true := by decide +kernel
theorem ok_M_tellsOf : xq_okM prog_12_method_25_code "PutBackModel" false (Option.some Jvm.ClassFile.FieldType.int) rw_M_tellsOf = true := by decide +kernel
theorem ok_M_looks : xq_okM prog_12_method_26_code "PutBackModel" false (Option.some Jvm.ClassFile.FieldType.int) rw_M_looks = true := by decide +kernel
theorem ok_M_indexOf : xq_okM prog_12_method_27_code "PutBackModel" false (Option.some Jvm.ClassFile.FieldType.int) rw_M_indexOf = true := by decide +kernel
theorem ok_M_word : xq_okM prog_12_method_28_code "PutBackModel" false (Option.some Jvm.ClassFile.FieldType.int) rw_M_word = true := by decide +kernel
theorem ok_M_listed : xq_okM prog_12_method_29_code "PutBackModel" false (Option.some Jvm.ClassFile.FieldType.int) rw_M_listed = true := by decide +kernel
theorem ok_M_weigh : xq_okM prog_12_method_30_code "PutBackModel" false (Option.some Jvm.ClassFile.FieldType.int) rw_M_weigh = true := by decide +kernel
theorem ok_M_behind : xq_okM prog_12_method_31_code "PutBackModel" false (Option.some Jvm.ClassFile.FieldType.int) rw_M_behind = true := by decide +kernel
theorem ok_M_mender : xq_okM prog_12_method_32_code "PutBackModel" false (Option.some Jvm.ClassFile.FieldType.int) rw_M_mender = true := by decide +kernel
theorem ok_M_of : xq_okM prog_12_method_33_code "PutBackModel" false (Option.some Jvm.ClassFile.FieldType.int) rw_M_of = true := by decide +kernel
theorem ok_M_row : xq_okM prog_12_method_34_code "PutBackModel" false (Option.some Jvm.ClassFile.FieldType.int) rw_M_row = true := by decide +kernel
theorem ok_M_areNear : xq_okM prog_12_method_35_code "PutBackModel" false (Option.some Jvm.ClassFile.FieldType.boolean) rw_M_areNear = true := by decide +kernel
theorem ok_M_spellsInto : xq_okM prog_12_method_36_code "PutBackModel" false (Option.none : Option Jvm.ClassFile.FieldType) rw_M_spellsInto = true := by decide +kernel
theorem ok_M_lesser : xq_okM prog_12_method_37_code "PutBackModel" false (Option.some Jvm.ClassFile.FieldType.int) rw_M_lesser = true := by decide +kernel
theorem ok_M_changes : xq_okM prog_12_method_38_code "PutBackModel" false (Option.some Jvm.ClassFile.FieldType.int) rw_M_changes = true := by decide +kernel
theorem ok_M_farOf : xq_okM prog_12_method_39_code "PutBackModel" false (Option.some Jvm.ClassFile.FieldType.int) rw_M_farOf = true := by decide +kernel
theorem ok_M_looksFor : xq_okM prog_12_method_40_code "PutBackModel" false (Option.none : Option Jvm.ClassFile.FieldType) rw_M_looksFor = true := by decide +kernel
theorem ok_M_costOf : xq_okM prog_12_method_41_code "PutBackModel" false (Option.some Jvm.ClassFile.FieldType.int) rw_M_costOf = true := by decide +kernel
theorem ok_M_isLeft : xq_okM prog_12_method_42_code "PutBackModel" false (Option.some Jvm.ClassFile.FieldType.boolean) rw_M_isLeft = true := by decide +kernel
theorem ok_M_madeOf : xq_okM prog_12_method_43_code "PutBackModel" false (Option.some Jvm.ClassFile.FieldType.int) rw_M_madeOf = true := by decide +kernel
theorem ok_M_makesOf : xq_okM prog_12_method_44_code "PutBackModel" false (Option.some Jvm.ClassFile.FieldType.int) rw_M_makesOf = true := by decide +kernel
theorem ok_M_types : xq_okM prog_12_method_45_code "PutBackModel" false (Option.some Jvm.ClassFile.FieldType.int) rw_M_types = true := by decide +kernel
theorem ok_M_type : xq_okM prog_12_method_46_code "PutBackModel" false (Option.some Jvm.ClassFile.FieldType.int) rw_M_type = true := by decide +kernel
theorem ok_M_back : xq_okM prog_12_method_47_code "PutBackModel" false (Option.some Jvm.ClassFile.FieldType.int) rw_M_back = true := by decide +kernel
theorem ok_M_send : xq_okM prog_12_method_48_code "PutBackModel" false (Option.some Jvm.ClassFile.FieldType.int) rw_M_send = true := by decide +kernel
theorem ok_M_told : xq_okM prog_12_method_49_code "PutBackModel" false (Option.some Jvm.ClassFile.FieldType.int) rw_M_told = true := by decide +kernel
theorem ok_M_makes : xq_okM prog_12_method_50_code "PutBackModel" false (Option.some Jvm.ClassFile.FieldType.int) rw_M_makes = true := by decide +kernel
theorem ok_M_cost : xq_okM prog_12_method_51_code "PutBackModel" false (Option.some Jvm.ClassFile.FieldType.int) rw_M_cost = true := by decide +kernel
theorem ok_M_staysOf : xq_okM prog_12_method_52_code "PutBackModel" false (Option.some Jvm.ClassFile.FieldType.int) rw_M_staysOf = true := by decide +kernel
theorem ok_M_stays : xq_okM prog_12_method_53_code "PutBackModel" false (Option.some Jvm.ClassFile.FieldType.int) rw_M_stays = true := by decide +kernel
theorem ok_M_looksForShort : xq_okM prog_12_method_54_code "PutBackModel" false (Option.none : Option Jvm.ClassFile.FieldType) rw_M_looksForShort = true := by decide +kernel
theorem ok_M_looksForTouches : xq_okM prog_12_method_55_code "PutBackModel" false (Option.none : Option Jvm.ClassFile.FieldType) rw_M_looksForTouches = true := by decide +kernel
theorem ok_M_touches : xq_okM prog_12_method_56_code "PutBackModel" false (Option.some Jvm.ClassFile.FieldType.int) rw_M_touches = true := by decide +kernel
theorem ok_M_never : xq_okM prog_12_method_57_code "PutBackModel" false (Option.some Jvm.ClassFile.FieldType.int) rw_M_never = true := by decide +kernel
theorem ok_M_round : xq_okM prog_12_method_58_code "PutBackModel" false (Option.some Jvm.ClassFile.FieldType.int) rw_M_round = true := by decide +kernel
theorem ok_M_stands : xq_okM prog_12_method_59_code "PutBackModel" false (Option.some Jvm.ClassFile.FieldType.int) rw_M_stands = true := by decide +kernel
theorem ok_M_begins : xq_okM prog_12_method_60_code "PutBackModel" false (Option.some Jvm.ClassFile.FieldType.boolean) rw_M_begins = true := by decide +kernel
theorem ok_M_aheadOf : xq_okM prog_12_method_61_code "PutBackModel" false (Option.some Jvm.ClassFile.FieldType.int) rw_M_aheadOf = true := by decide +kernel
theorem ok_M_guess : xq_okM prog_12_method_62_code "PutBackModel" false (Option.some Jvm.ClassFile.FieldType.int) rw_M_guess = true := by decide +kernel
theorem ok_M_letter : xq_okM prog_12_method_63_code "PutBackModel" false (Option.some Jvm.ClassFile.FieldType.int) rw_M_letter = true := by decide +kernel
theorem ok_M_enough : xq_okM prog_12_method_64_code "PutBackModel" false (Option.some Jvm.ClassFile.FieldType.int) rw_M_enough = true := by decide +kernel
theorem ok_M_slipsFrom : xq_okM prog_12_method_65_code "PutBackModel" false (Option.none : Option Jvm.ClassFile.FieldType) rw_M_slipsFrom = true := by decide +kernel
theorem ok_M_lowest : xq_okM prog_12_method_66_code "PutBackModel" false (Option.some Jvm.ClassFile.FieldType.long) rw_M_lowest = true := by decide +kernel
theorem ok_M_slips : xq_okM prog_12_method_67_code "PutBackModel" false (Option.some Jvm.ClassFile.FieldType.long) rw_M_slips = true := by decide +kernel
theorem ok_M_count1 : xq_okM prog_12_method_68_code "PutBackModel" false (Option.some Jvm.ClassFile.FieldType.int) rw_M_count1 = true := by decide +kernel
theorem ok_M_wrong : xq_okM prog_12_method_69_code "PutBackModel" false (Option.some Jvm.ClassFile.FieldType.long) rw_M_wrong = true := by decide +kernel
theorem ok_M_unlike : xq_okM prog_12_method_70_code "PutBackModel" false (Option.some Jvm.ClassFile.FieldType.int) rw_M_unlike = true := by decide +kernel
theorem ok_M_goesRound : xq_okM prog_12_method_71_code "PutBackModel" false (Option.some Jvm.ClassFile.FieldType.boolean) rw_M_goesRound = true := by decide +kernel
theorem ok_M_chain : xq_okM prog_12_method_72_code "PutBackModel" false (Option.some Jvm.ClassFile.FieldType.int) rw_M_chain = true := by decide +kernel
theorem ok_M_waysOf : xq_okM prog_12_method_73_code "PutBackModel" false (Option.some Jvm.ClassFile.FieldType.int) rw_M_waysOf = true := by decide +kernel
theorem ok_M_meant : xq_okM prog_12_method_74_code "PutBackModel" false (Option.some Jvm.ClassFile.FieldType.int) rw_M_meant = true := by decide +kernel
theorem ok_M_likeliest : xq_okM prog_12_method_75_code "PutBackModel" false (Option.some Jvm.ClassFile.FieldType.int) rw_M_likeliest = true := by decide +kernel
theorem ok_M_who : xq_okM prog_12_method_76_code "PutBackModel" false (Option.some Jvm.ClassFile.FieldType.int) rw_M_who = true := by decide +kernel
theorem ok_M_twins : xq_okM prog_12_method_77_code "PutBackModel" false (Option.some Jvm.ClassFile.FieldType.int) rw_M_twins = true := by decide +kernel
theorem ok_M_room : xq_okM prog_12_method_78_code "PutBackModel" false (Option.some Jvm.ClassFile.FieldType.int) rw_M_room = true := by decide +kernel
theorem ok_M_saved : xq_okM prog_12_method_79_code "PutBackModel" false (Option.some Jvm.ClassFile.FieldType.int) rw_M_saved = true := by decide +kernel
theorem ok_M_book : xq_okM prog_12_method_80_code "PutBackModel" false (Option.some Jvm.ClassFile.FieldType.int) rw_M_book = true := by decide +kernel
theorem ok_M_looked : xq_okM prog_12_method_81_code "PutBackModel" false (Option.some Jvm.ClassFile.FieldType.int) rw_M_looked = true := by decide +kernel
theorem ok_M_ranBody : xq_okM prog_12_method_82_code "PutBackModel" false (Option.none : Option Jvm.ClassFile.FieldType) rw_M_ranBody = true := by decide +kernel
theorem ok_M_isUnder : xq_okM prog_12_method_83_code "PutBackModel" false (Option.some Jvm.ClassFile.FieldType.boolean) rw_M_isUnder = true := by decide +kernel
theorem ok_M_plainMends : xq_okM prog_12_method_84_code "PutBackModel" false (Option.some Jvm.ClassFile.FieldType.int) rw_M_plainMends = true := by decide +kernel
theorem ok_M_mendsActs : xq_okM prog_12_method_85_code "PutBackModel" false (Option.some Jvm.ClassFile.FieldType.int) rw_M_mendsActs = true := by decide +kernel
theorem ok_M_plainLeaves : xq_okM prog_12_method_86_code "PutBackModel" false (Option.some Jvm.ClassFile.FieldType.int) rw_M_plainLeaves = true := by decide +kernel
theorem ok_M_leavesActs : xq_okM prog_12_method_87_code "PutBackModel" false (Option.some Jvm.ClassFile.FieldType.int) rw_M_leavesActs = true := by decide +kernel
theorem ok_M_plainTells : xq_okM prog_12_method_88_code "PutBackModel" false (Option.some Jvm.ClassFile.FieldType.int) rw_M_plainTells = true := by decide +kernel
theorem ok_M_tellsActs : xq_okM prog_12_method_89_code "PutBackModel" false (Option.some Jvm.ClassFile.FieldType.int) rw_M_tellsActs = true := by decide +kernel
theorem ok_M_act : xq_okM prog_12_method_90_code "PutBackModel" false (Option.some Jvm.ClassFile.FieldType.int) rw_M_act = true := by decide +kernel
theorem ok_M_trace : xq_okM prog_12_method_91_code "PutBackModel" false (Option.some Jvm.ClassFile.FieldType.int) rw_M_trace = true := by decide +kernel
theorem ok_M_as : xq_okM prog_12_method_92_code "PutBackModel" false (Option.some Jvm.ClassFile.FieldType.int) rw_M_as = true := by decide +kernel
theorem ok_M_image : xq_okM prog_12_method_93_code "PutBackModel" false (Option.some Jvm.ClassFile.FieldType.int) rw_M_image = true := by decide +kernel
theorem ok_M_undo : xq_okM prog_12_method_94_code "PutBackModel" false (Option.some Jvm.ClassFile.FieldType.int) rw_M_undo = true := by decide +kernel
theorem ok_M_count : xq_okM prog_12_method_95_code "PutBackModel" false (Option.some Jvm.ClassFile.FieldType.int) rw_M_count = true := by decide +kernel
end
section
theorem okc_0 : rw_L_law_c0.all (xq_okb code "PutBackLaw" false ret (xq_rp rw_L_law)) = true := by decide +kernel
theorem okc_1 : rw_L_law_c1.all (xq_okb code "PutBackLaw" false ret (xq_rp rw_L_law)) = true := by decide +kernel
theorem okc_2 : rw_L_law_c2.all (xq_okb code "PutBackLaw" false ret (xq_rp rw_L_law)) = true := by decide +kernel
theorem okc_3 : rw_L_law_c3.all (xq_okb code "PutBackLaw" false ret (xq_rp rw_L_law)) = true := by decide +kernel
theorem okc_4 : rw_L_law_c4.all (xq_okb code "PutBackLaw" false ret (xq_rp rw_L_law)) = true := by decide +kernel
theorem okc_5 : rw_L_law_c5.all (xq_okb code "PutBackLaw" false ret (xq_rp rw_L_law)) = true := by decide +kernel
theorem okc_6 : rw_L_law_c6.all (xq_okb code "PutBackLaw" false ret (xq_rp rw_L_law)) = true := by decide +kernel
theorem okc_7 : rw_L_law_c7.all (xq_okb code "PutBackLaw" false ret (xq_rp rw_L_law)) = true := by decide +kernel
theorem okc_8 : rw_L_law_c8.all (xq_okb code "PutBackLaw" false ret (xq_rp rw_L_law)) = true := by decide +kernel
theorem okc_9 : rw_L_law_c9.all (xq_okb code "PutBackLaw" false ret (xq_rp rw_L_law)) = true := by decide +kernel
theorem okc_10 : rw_L_law_c10.all (xq_okb code "PutBackLaw" false ret (xq_rp rw_L_law)) = true := by decide +kernel
theorem okc_11 : rw_L_law_c11.all (xq_okb code "PutBackLaw" false ret (xq_rp rw_L_law)) = true := by decide +kernel
theorem okc_12 : rw_L_law_c12.all (xq_okb code "PutBackLaw" false ret (xq_rp rw_L_law)) = true := by decide +kernel
theorem okc_13 : rw_L_law_c13.all (xq_okb code "PutBackLaw" false ret (xq_rp rw_L_law)) = true := by decide +kernel
theorem okc_14 : rw_L_law_c14.all (xq_okb code "PutBackLaw" false ret (xq_rp rw_L_law)) = true := by decide +kernel
end
section
theorem okc_15 : rw_L_law_c15.all (xq_okb code "PutBackLaw" false ret (xq_rp rw_L_law)) = true := by decide +kernel
theorem okc_16 : rw_L_law_c16.all (xq_okb code "PutBackLaw" false ret (xq_rp rw_L_law)) = true := by decide +kernel
theorem okc_17 : rw_L_law_c17.all (xq_okb code "PutBackLaw" false ret (xq_rp rw_L_law)) = true := by decide +kernel
theorem okc_18 : rw_L_law_c18.all (xq_okb code "PutBackLaw" false ret (xq_rp rw_L_law)) = true := by decide +kernel
theorem okc_19 : rw_L_law_c19.all (xq_okb code "PutBackLaw" false ret (xq_rp rw_L_law)) = true := by decide +kernel
theorem okc_20 : rw_L_law_c20.all (xq_okb code "PutBackLaw" false ret (xq_rp rw_L_law)) = true := by decide +kernel
theorem okc_21 : rw_L_law_c21.all (xq_okb code "PutBackLaw" false ret (xq_rp rw_L_law)) = true := by decide +kernel
theorem okc_22 : rw_L_law_c22.all (xq_okb code "PutBackLaw" false ret (xq_rp rw_L_law)) = true := by decide +kernel
theorem okc_23 : rw_L_law_c23.all (xq_okb code "PutBackLaw" false ret (xq_rp rw_L_law)) = true := by decide +kernel
theorem okc_24 : rw_L_law_c24.all (xq_okb code "PutBackLaw" false ret (xq_rp rw_L_law)) = true := by decide +kernel
theorem okc_25 : rw_L_law_c25.all (xq_okb code "PutBackLaw" false ret (xq_rp rw_L_law)) = true := by decide +kernel
theorem okc_26 : rw_L_law_c26.all (xq_okb code "PutBackLaw" false ret (xq_rp rw_L_law)) = true := by decide +kernel
theorem okc_27 : rw_L_law_c27.all (xq_okb code "PutBackLaw" false ret (xq_rp rw_L_law)) = true := by decide +kernel
theorem okc_28 : rw_L_law_c28.all (xq_okb code "PutBackLaw" false ret (xq_rp rw_L_law)) = true := by decide +kernel
theorem okc_29 : rw_L_law_c29.all (xq_okb code "PutBackLaw" false ret (xq_rp rw_L_law)) = true := by decide +kernel
theorem okc_30 : rw_L_law_c30.all (xq_okb code "PutBackLaw" false ret (xq_rp rw_L_law)) = true := by decide +kernel
end
section
theorem okc_31 : rw_L_law_c31.all (xq_okb code "PutBackLaw" false ret (xq_rp rw_L_law)) = true := by decide +kernel
theorem okc_32 : rw_L_law_c32.all (xq_okb code "PutBackLaw" false ret (xq_rp rw_L_law)) = true := by decide +kernel
theorem okc_33 : rw_L_law_c33.all (xq_okb code "PutBackLaw" false ret (xq_rp rw_L_law)) = true := by decide +kernel
theorem okc_34 : rw_L_law_c34.all (xq_okb code "PutBackLaw" false ret (xq_rp rw_L_law)) = true := by decide +kernel
theorem okc_35 : rw_L_law_c35.all (xq_okb code "PutBackLaw" false ret (xq_rp rw_L_law)) = true := by decide +kernel
theorem okc_36 : rw_L_law_c36.all (xq_okb code "PutBackLaw" false ret (xq_rp rw_L_law)) = true := by decide +kernel
theorem okc_37 : rw_L_law_c37.all (xq_okb code "PutBackLaw" false ret (xq_rp rw_L_law)) = true := by decide +kernel
theorem okc_38 : rw_L_law_c38.all (xq_okb code "PutBackLaw" false ret (xq_rp rw_L_law)) = true := by decide +kernel
theorem okc_39 : rw_L_law_c39.all (xq_okb code "PutBackLaw" false ret (xq_rp rw_L_law)) = true := by decide +kernel
theorem okc_40 : rw_L_law_c40.all (xq_okb code "PutBackLaw" false ret (xq_rp rw_L_law)) = true := by decide +kernel
theorem okc_41 : rw_L_law_c41.all (xq_okb code "PutBackLaw" false ret (xq_rp rw_L_law)) = true := by decide +kernel
theorem okc_42 : rw_L_law_c42.all (xq_okb code "PutBackLaw" false ret (xq_rp rw_L_law)) = true := by decide +kernel
theorem okc_43 : rw_L_law_c43.all (xq_okb code "PutBackLaw" false ret (xq_rp rw_L_law)) = true := by decide +kernel
theorem okc_44 : rw_L_law_c44.all (xq_okb code "PutBackLaw" false ret (xq_rp rw_L_law)) = true := by decide +kernel
theorem okc_45 : rw_L_law_c45.all (xq_okb code "PutBackLaw" false ret (xq_rp rw_L_law)) = true := by decide +kernel
end
section
theorem okc_46 : rw_L_law_c46.all (xq_okb code "PutBackLaw" false ret (xq_rp rw_L_law)) = true := by decide +kernel
theorem okc_47 : rw_L_law_c47.all (xq_okb code "PutBackLaw" false ret (xq_rp rw_L_law)) = true := by decide +kernel
theorem okc_48 : rw_L_law_c48.all (xq_okb code "PutBackLaw" false ret (xq_rp rw_L_law)) = true := by decide +kernel
theorem okc_49 : rw_L_law_c49.all (xq_okb code "PutBackLaw" false ret (xq_rp rw_L_law)) = true := by decide +kernel
theorem okc_50 : rw_L_law_c50.all (xq_okb code "PutBackLaw" false ret (xq_rp rw_L_law)) = true := by decide +kernel
theorem okc_51 : rw_L_law_c51.all (xq_okb code "PutBackLaw" false ret (xq_rp rw_L_law)) = true := by decide +kernel
theorem okc_52 : rw_L_law_c52.all (xq_okb code "PutBackLaw" false ret (xq_rp rw_L_law)) = true := by decide +kernel
theorem okc_53 : rw_L_law_c53.all (xq_okb code "PutBackLaw" false ret (xq_rp rw_L_law)) = true := by decide +kernel
theorem okc_54 : rw_L_law_c54.all (xq_okb code "PutBackLaw" false ret (xq_rp rw_L_law)) = true := by decide +kernel
theorem okc_55 : rw_L_law_c55.all (xq_okb code "PutBackLaw" false ret (xq_rp rw_L_law)) = true := by decide +kernel
theorem okc_56 : rw_L_law_c56.all (xq_okb code "PutBackLaw" false ret (xq_rp rw_L_law)) = true := by decide +kernel
theorem okc_57 : rw_L_law_c57.all (xq_okb code "PutBackLaw" false ret (xq_rp rw_L_law)) = true := by decide +kernel
theorem okc_58 : rw_L_law_c58.all (xq_okb code "PutBackLaw" false ret (xq_rp rw_L_law)) = true := by decide +kernel
theorem okc_59 : rw_L_law_c59.all (xq_okb code "PutBackLaw" false ret (xq_rp rw_L_law)) = true := by decide +kernel
theorem okc_60 : rw_L_law_c60.all (xq_okb code "PutBackLaw" false ret (xq_rp rw_L_law)) = true := by decide +kernel
theorem okc_61 : rw_L_law_c61.all (xq_okb code "PutBackLaw" false ret (xq_rp rw_L_law)) = true := by decide +kernel
theorem ok_L_law : xq_okM code "PutBackLaw" false ret rw_L_law = true := by
  show ([rw_L_law_c0, rw_L_law_c1, rw_L_law_c2, rw_L_law_c3, rw_L_law_c4, rw_L_law_c5, rw_L_law_c6, rw_L_law_c7, rw_L_law_c8, rw_L_law_c9, rw_L_law_c10, rw_L_law_c11, rw_L_law_c12, rw_L_law_c13, rw_L_law_c14, rw_L_law_c15, rw_L_law_c16, rw_L_law_c17, rw_L_law_c18, rw_L_law_c19, rw_L_law_c20, rw_L_law_c21, rw_L_law_c22, rw_L_law_c23, rw_L_law_c24, rw_L_law_c25, rw_L_law_c26, rw_L_law_c27, rw_L_law_c28, rw_L_law_c29, rw_L_law_c30, rw_L_law_c31, rw_L_law_c32, rw_L_law_c33, rw_L_law_c34, rw_L_law_c35, rw_L_law_c36, rw_L_law_c37, rw_L_law_c38, rw_L_law_c39, rw_L_law_c40, rw_L_law_c41, rw_L_law_c42, rw_L_law_c43, rw_L_law_c44, rw_L_law_c45, rw_L_law_c46, rw_L_law_c47, rw_L_law_c48, rw_L_law_c49, rw_L_law_c50, rw_L_law_c51, rw_L_law_c52, rw_L_law_c53, rw_L_law_c54, rw_L_law_c55, rw_L_law_c56, rw_L_law_c57, rw_L_law_c58, rw_L_law_c59, rw_L_law_c60, rw_L_law_c61] : List (List xq_Row)).all _ = true
  simp only [List.all_cons, List.all_nil, Bool.and_true, okc_0, okc_1, okc_2, okc_3, okc_4, okc_5, okc_6, okc_7, okc_8, okc_9, okc_10, okc_11, okc_12, okc_13, okc_14, okc_15, okc_16, okc_17, okc_18, okc_19, okc_20, okc_21, okc_22, okc_23, okc_24, okc_25, okc_26, okc_27, okc_28, okc_29, okc_30, okc_31, okc_32, okc_33, okc_34, okc_35, okc_36, okc_37, okc_38, okc_39, okc_40, okc_41, okc_42, okc_43, okc_44, okc_45, okc_46, okc_47, okc_48, okc_49, okc_50, okc_51, okc_52, okc_53, okc_54, okc_55, okc_56, okc_57, okc_58, okc_59, okc_60, okc_61]
end
section
/-! THE ABSTRACT RUN IS THE MACHINE'S: the world as numbers -/
theorem xi_of {i : Int} (h : -2147483648 ≤ i ∧ i ≤ 2147483647) : (Int32.ofInt i).toInt = i := Int32.toInt_ofInt_of_le (by omega) (by omega)
theorem xj_of {i : Int} (h : -9223372036854775808 ≤ i ∧ i ≤ 9223372036854775807) : (Int64.ofInt i).toInt = i := Int64.toInt_ofInt_of_le (by omega) (by omega)
theorem xi_rg (x : Int32) : -2147483648 ≤ x.toInt ∧ x.toInt ≤ 2147483647 := ⟨x.le_toInt, Int.le_of_lt_add_one x.toInt_lt⟩
theorem xi_in {i : Int} {n : Nat} (h : 0 ≤ i ∧ i < (n : Int)) (hn : n < 2147483648) : vp_in (Int32.ofInt i) n := by
  rw [vp_in_iff, xi_of (by omega)]
  exact h
theorem xi_cl {i : Int} (h : -2147483648 ≤ i ∧ i ≤ 2147483647) : (Int32.ofInt i).toNatClampNeg = i.toNat := by
  show (Int32.ofInt i).toInt.toNat = i.toNat
  rw [xi_of h]
def xq_ad (B : Nat) (aI : Nat → Nat) (o : Nat) : Nat := if o < 999 then B + o else aI o
def xq_cv (B : Nat) (aI : Nat → Nat) : xq_V → Value
  | .inl i => .int (Int32.ofInt i)
  | .inr (.inl i) => .long (Int64.ofInt i)
  | .inr (.inr o) => .ref (xq_ad B aI o)
def xq_rv : xq_V → Prop
  | .inl i => -2147483648 ≤ i ∧ i ≤ 2147483647
  | .inr (.inl i) => -9223372036854775808 ≤ i ∧ i ≤ 9223372036854775807
  | .inr (.inr _) => True
def xq_fv (B : Nat) (h : xq_H) (o ci k : Nat) : Value := match xq_fk ci k with
  | 0 => .int (Int32.ofInt (h o k))
  | 1 => .int (Int32.ofInt (h o k))
  | _ => if h o k = 0 then .null else .ref (B + (h o k - 1).toNat)
def xq_fs (B : Nat) (h : xq_H) (o ci : Nat) : List Value := (List.range (xq_nfl.getD ci 0)).map (xq_fv B h o ci)
def xq_ce (B : Nat) (dA : Nat → ClassId) (h : xq_H) (o : Nat) : va_E := match xq_cls o with
  | .inl ci => .inr (ci, xq_fs B h o ci)
  | .inr (t, n) => .inl (dA t, n, .inl (fun j => Int32.ofInt (h o (j : Int))))
def xq_ws (B : Nat) (dA : Nat → ClassId) (nx : Nat) (h : xq_H) : va_W := (List.range (min nx 80)).map (fun o => (B + o, xq_ce B dA h o))
def xq_rgh (h : xq_H) : Prop := ∀ o k, -2147483648 ≤ h o k ∧ h o k ≤ 2147483647
def xq_good (h : xq_H) : Prop := ∀ o ci k : Nat, o < 80 → xq_cls o = .inl ci → xq_fk ci k = 2 → h o k = (xq_rf o k : Int) + 1
def xq_Rep (B : Nat) (D : va_G) (dA : Nat → ClassId) (xs : Int → Int) (nx : Nat) (h : xq_H) (H : Heap) : Prop :=
  va_P D xq_cl (xq_ws B dA nx h) H ∧ h 999 = xs ∧ xq_rgh h ∧ (nx = 81 → xq_good h) ∧ nx ≤ 81
theorem xq_ws_at (B : Nat) (dA : Nat → ClassId) {nx o : Nat} (h : xq_H) (ho : o < nx) (h80 : o < 80) : (xq_ws B dA nx h)[o]? = some (B + o, xq_ce B dA h o) := by
  unfold xq_ws
  rw [List.getElem?_map, List.getElem?_range (by omega)]
  rfl
theorem xq_ws_no (B : Nat) (dA : Nat → ClassId) {nx o : Nat} (h : xq_H) (ho : ¬ (o < nx ∧ o < 80)) : (xq_ws B dA nx h)[o]? = none := by
  apply List.getElem?_eq_none
  unfold xq_ws
  rw [List.length_map, List.length_range]
  omega
theorem xq_cls_lt {o : Nat} {x : Nat ⊕ (Nat × Nat)} (h : xq_cls o = x) (hx : x ≠ .inl 99) : o < 80 := by
  rcases Nat.lt_or_ge o 80 with q | q
  · exact q
  · refine absurd ?_ hx
    rw [← h]
    unfold xq_cls
    have e : xq_shl2.getD (o / 8) [] = [] := by
      rw [List.getD_eq_getElem?_getD, List.getElem?_eq_none (by show (10 : Nat) ≤ _; omega)]
      rfl
    rw [e]
    rfl
theorem xq_ws_D (B : Nat) (dA : Nat → ClassId) (nx : Nat) (h : xq_H) : va_D (fun q => B ≤ q) (xq_ws B dA nx h) := by
  refine ⟨fun i j p q hi hj hpq => ?_, fun k q hk => ?_⟩
  · simp only [xq_ws, List.getElem?_map, Option.map_eq_some_iff] at hi hj
    obtain ⟨a, ha, rfl⟩ := hi
    obtain ⟨b, hb, rfl⟩ := hj
    obtain ⟨h1, h2⟩ := List.getElem?_eq_some_iff.mp ha
    obtain ⟨h3, h4⟩ := List.getElem?_eq_some_iff.mp hb
    rw [List.getElem_range] at h2 h4
    have h5 : B + a = B + b := hpq
    omega
  · simp only [xq_ws, List.getElem?_map, Option.map_eq_some_iff] at hk
    obtain ⟨a, -, rfl⟩ := hk
    exact Nat.le_add_right _ _
theorem xq_u_o {h : xq_H} {o o' : Nat} {k v : Int} (hne : o' ≠ o) : xq_u h o k v o' = h o' := by
  funext k'
  simp [xq_u, hne]
theorem xq_ce_o {B : Nat} {dA : Nat → ClassId} {h h' : xq_H} {o : Nat} (e : h' o = h o) : xq_ce B dA h' o = xq_ce B dA h o := by
  unfold xq_ce xq_fs
  split
  · congr 3
    funext k
    simp [xq_fv, e]
  · rw [e]
/-- one cell written: the list of cells -/
theorem xq_ws_set {B : Nat} {dA : Nat → ClassId} {nx o : Nat} {h h' : xq_H} {x : va_E} (ho : o < nx) (h80 : o < 80) (hx : xq_ce B dA h' o = x) (e : ∀ o', o' ≠ o → h' o' = h o') : (xq_ws B dA nx h).set o (B + o, x) = xq_ws B dA nx h' := by
  apply List.ext_getElem?
  intro k
  by_cases hk : k = o
  · subst hk
    rw [List.getElem?_set_self (List.getElem?_eq_some_iff.mp (xq_ws_at B dA h ho h80)).1, xq_ws_at B dA h' ho h80, hx]
  · rw [List.getElem?_set_ne (Ne.symm hk)]
    by_cases hkn : k < nx ∧ k < 80
    · rw [xq_ws_at B dA h hkn.1 hkn.2, xq_ws_at B dA h' hkn.1 hkn.2, xq_ce_o (e k hk)]
    · rw [xq_ws_no B dA h hkn, xq_ws_no B dA h' hkn]
theorem xq_ws_push {B : Nat} {dA : Nat → ClassId} {nx : Nat} {h : xq_H} {x : va_E} (h80 : nx < 80) (hx : xq_ce B dA (xq_z h nx) nx = x) : xq_ws B dA nx h ++ [(B + nx, x)] = xq_ws B dA (nx + 1) (xq_z h nx) := by
  unfold xq_ws
  rw [show min (nx + 1) 80 = nx + 1 by omega, show min nx 80 = nx by omega, List.range_succ, List.map_append, List.map_singleton, hx]
  congr 1
  apply List.map_congr_left
  intro a ha
  have hl : a < nx := by simpa using ha
  rw [xq_ce_o]
  funext k
  simp [xq_z, Nat.ne_of_lt hl]
theorem xq_rgh_u {h : xq_H} (hh : xq_rgh h) (o : Nat) (k : Int) {v : Int} (hv : -2147483648 ≤ v ∧ v ≤ 2147483647) : xq_rgh (xq_u h o k v) := by
  intro o' k'
  unfold xq_u
  split
  · split
    · exact hv
    · exact hh _ _
  · exact hh _ _
theorem xq_rgh_z {h : xq_H} (hh : xq_rgh h) (o : Nat) : xq_rgh (xq_z h o) := by
  intro o' k'
  unfold xq_z
  split
  · omega
  · exact hh _ _
def xq_lv (B : Nat) (aI : Nat → Nat) (ls : Array Slot) (n : Nat) (L : xq_L) : Prop := ls.size = n ∧ lv_wf ls ∧ L.length = n ∧ ∀ i v, xq_get L i = some v → ls[i]? = some (.val (xq_cv B aI v)) ∧ xq_rv v
theorem xq_get_iff : ∀ (L : xq_L) (i : Nat) (v : xq_V), xq_get L i = some v ↔ L[i]? = some (some v)
  | [], i, v => by simp [xq_get]
  | a :: l, 0, v => by simp [xq_get]
  | a :: l, i + 1, v => by simp [xq_get, xq_get_iff l i v]
def xq_ll (B : Nat) (aI : Nat → Nat) (n : Nat) (L : xq_L) : List (Nat × Value) := (List.range n).filterMap (fun i => (xq_get L i).map (fun v => (i, xq_cv B aI v)))
theorem xq_ll_mem {B : Nat} {aI : Nat → Nat} {n : Nat} {L : xq_L} (q : Nat × Value) : q ∈ xq_ll B aI n L ↔ ∃ v, q.1 < n ∧ xq_get L q.1 = some v ∧ q.2 = xq_cv B aI v := by
  obtain ⟨i, w⟩ := q
  simp only [xq_ll, List.mem_filterMap, List.mem_range, Option.map_eq_some_iff, Prod.mk.injEq]
  constructor
  · rintro ⟨a, ha, v, hv, rfl, rfl⟩
    exact ⟨v, ha, hv, rfl⟩
  · rintro ⟨v, h1, h2, h3⟩
    exact ⟨i, h1, v, h2, rfl, h3.symm⟩
theorem xq_ll_has {B : Nat} {aI : Nat → Nat} {ls : Array Slot} {n : Nat} {L : xq_L} (h : xq_lv B aI ls n L) : lv_has ls n (xq_ll B aI n L) := by
  refine ⟨h.1, h.2.1, fun q hq => ?_⟩
  obtain ⟨v, -, h2, h3⟩ := (xq_ll_mem q).mp hq
  rw [h3]
  exact (h.2.2.2 _ _ h2).1
theorem xq_get_set {L : xq_L} {i j : Nat} {x : Option xq_V} {v : xq_V} (h : xq_get (L.set i x) j = some v) : (j = i ∧ x = some v) ∨ (j ≠ i ∧ xq_get L j = some v) := by
  rw [xq_get_iff] at h
  by_cases hj : j = i
  · subst hj
    left
    by_cases hl : j < L.length
    · rw [List.getElem?_set_self hl] at h
      exact ⟨rfl, Option.some.inj h⟩
    · rw [List.getElem?_eq_none (by simp; omega)] at h
      cases h
  · rw [List.getElem?_set_ne (Ne.symm hj)] at h
    exact Or.inr ⟨hj, (xq_get_iff _ _ _).mpr h⟩
theorem xq_cat1 {B : Nat} {aI : Nat → Nat} {L : xq_L} {j : Nat} {v : xq_V} (hp : xq_pl L (j + 1) = false) (hg : xq_get L j = some v) : (xq_cv B aI v).category = 1 := by
  have hp' : (match xq_get L j with
    | some (.inr (.inl _)) => true
    | _ => false) = false := hp
  rw [hg] at hp'
  rcases v with v | v | v
  · rfl
  · simp at hp'
  · rfl
theorem xq_store1 {B : Nat} {aI : Nat → Nat} {ls ls' : Array Slot} {n i : Nat} {L : xq_L} {v : xq_V} (h : xq_lv B aI ls n L) (hp : xq_pl L i = false) (hv : xq_rv v)
    (h' : lv_has ls' n ((i, xq_cv B aI v) :: (xq_ll B aI n L).filter (fun q => !(q.1 == i) && !(q.1 + 1 == i && q.2.category == 2)))) : xq_lv B aI ls' n (L.set i (some v)) := by
  refine ⟨h'.1, h'.2.1, by simpa using h.2.2.1, fun j w hw => ?_⟩
  rcases xq_get_set hw with ⟨rfl, e⟩ | ⟨hne, hg⟩
  · cases e
    exact ⟨h'.2.2 _ List.mem_cons_self, hv⟩
  · refine ⟨h'.2.2 (j, xq_cv B aI w) (List.mem_cons_of_mem _ (List.mem_filter.mpr ⟨(xq_ll_mem _).mpr ⟨w, ?_, hg, rfl⟩, ?_⟩)), (h.2.2.2 _ _ hg).2⟩
    · have := (List.getElem?_eq_some_iff.mp ((xq_get_iff _ _ _).mp hg)).1
      rw [h.2.2.1] at this
      exact this
    · simp only [Bool.and_eq_true, Bool.not_eq_true', beq_eq_false_iff_ne, ne_eq, Bool.and_eq_false_iff]
      refine ⟨hne, ?_⟩
      by_cases hj : j + 1 = i
      · subst hj
        right
        rw [xq_cat1 hp hg]
        decide
      · exact Or.inl hj
theorem xq_store2 {B : Nat} {aI : Nat → Nat} {ls ls' : Array Slot} {n i : Nat} {L : xq_L} {v : xq_V} (h : xq_lv B aI ls n L) (hp : xq_pl L i = false) (hv : xq_rv v)
    (h' : lv_has ls' n ((i, xq_cv B aI v) :: (xq_ll B aI n L).filter (fun q => !(q.1 == i) && (!(q.1 == i + 1) && !(q.1 + 1 == i && q.2.category == 2))))) : xq_lv B aI ls' n ((L.set i (some v)).set (i + 1) none) := by
  refine ⟨h'.1, h'.2.1, by simpa using h.2.2.1, fun j w hw => ?_⟩
  rcases xq_get_set hw with ⟨rfl, e⟩ | ⟨hne1, hw⟩
  · cases e
  · rcases xq_get_set hw with ⟨rfl, e⟩ | ⟨hne, hg⟩
    · cases e
      exact ⟨h'.2.2 _ List.mem_cons_self, hv⟩
    · refine ⟨h'.2.2 (j, xq_cv B aI w) (List.mem_cons_of_mem _ (List.mem_filter.mpr ⟨(xq_ll_mem _).mpr ⟨w, ?_, hg, rfl⟩, ?_⟩)), (h.2.2.2 _ _ hg).2⟩
      · have := (List.getElem?_eq_some_iff.mp ((xq_get_iff _ _ _).mp hg)).1
        rw [h.2.2.1] at this
        exact this
      · simp only [Bool.and_eq_true, Bool.not_eq_true', beq_eq_false_iff_ne, ne_eq, Bool.and_eq_false_iff]
        refine ⟨hne, hne1, ?_⟩
        by_cases hj : j + 1 = i
        · subst hj
          right
          rw [xq_cat1 hp hg]
          decide
        · exact Or.inl hj
/-! facts of the classes -/
def xq_tyl : List (Nat → FieldType) := [tyX0, tyX1, tyX2, tyX3, tyX4, tyX5, tyX6, tyX7, tyX8, tyX9, tyX10]
def xq_isr : FieldType → Bool
  | .object _ => true
  | .array _ => true
  | _ => false
/-- what a class's row of the tables says -/
def xq_cok (ci : Nat) (C : String) (T : u_T) (N : Nat) (ty : Nat → FieldType) : Prop := (∀ w ∈ u_ws C T N, w ∈ lw_gd) ∧ (∀ k, k < N → parseFieldDescriptor (T k).2.2.1 = some (ty k)) ∧ (∀ a, a < N → ∀ b, b < N → a ≠ b → (T a).2.1 ≠ (T b).2.1) ∧ xq_nfl.getD ci 0 = N ∧ ∀ k, k < N → ((xq_fk ci k = 0 ∧ ty k = .int) ∨ (xq_fk ci k = 1 ∧ ty k = .boolean) ∨ ((xq_fk ci k = 2 ∨ xq_fk ci k = 3) ∧ xq_isr (ty k) = true))
theorem goodIn_m {ws : List Jvm.Cond} (h : (ws.all fun w => decide (w ∈ lw_tbl)) = true) (h2 : ws.all goodWord = true) : ∀ w ∈ ws, w ∈ lw_gd := fun w hw => List.mem_filter.mpr ⟨of_decide_eq_true (List.all_eq_true.mp h w hw), List.all_eq_true.mp h2 w hw⟩
set_option maxRecDepth 20000 in
theorem xq_cok0 : xq_cok 0 RX0 TX0 5 tyX0 := ⟨goodIn_m (by decide +kernel) (by decide +kernel), tyX0_ok, nmX0, rfl, by decide +kernel⟩
set_option maxRecDepth 20000 in
theorem xq_cok1 : xq_cok 1 RX1 TX1 4 tyX1 := ⟨goodIn_m (by decide +kernel) (by decide +kernel), tyX1_ok, nmX1, rfl, by decide +kernel⟩
set_option maxRecDepth 20000 in
theorem xq_cok2 : xq_cok 2 RX2 TX2 4 tyX2 := ⟨goodIn_m (by decide +kernel) (by decide +kernel), tyX2_ok, nmX2, rfl, by decide +kernel⟩
set_option maxRecDepth 20000 in
theorem xq_cok3 : xq_cok 3 RX3 TX3 8 tyX3 := ⟨goodIn_m (by decide +kernel) (by decide +kernel), tyX3_ok, nmX3, rfl, by decide +kernel⟩
set_option maxRecDepth 20000 in
theorem xq_cok4 : xq_cok 4 RX4 TX4 7 tyX4 := ⟨goodIn_m (by decide +kernel) (by decide +kernel), tyX4_ok, nmX4, rfl, by decide +kernel⟩
set_option maxRecDepth 20000 in
theorem xq_cok5 : xq_cok 5 RX5 TX5 4 tyX5 := ⟨goodIn_m (by decide +kernel) (by decide +kernel), tyX5_ok, nmX5, rfl, by decide +kernel⟩
set_option maxRecDepth 20000 in
theorem xq_cok6 : xq_cok 6 RX6 TX6 8 tyX6 := ⟨goodIn_m (by decide +kernel) (by decide +kernel), tyX6_ok, nmX6, rfl, by decide +kernel⟩
set_option maxRecDepth 20000 in
theorem xq_cok7 : xq_cok 7 RX7 TX7 6 tyX7 := ⟨goodIn_m (by decide +kernel) (by decide +kernel), tyX7_ok, nmX7, rfl, by decide +kernel⟩
set_option maxRecDepth 20000 in
theorem xq_cok8 : xq_cok 8 RX8 TX8 6 tyX8 := ⟨goodIn_m (by decide +kernel) (by decide +kernel), tyX8_ok, nmX8, rfl, by decide +kernel⟩
set_option maxRecDepth 20000 in
theorem xq_cok9 : xq_cok 9 RX9 TX9 8 tyX9 := ⟨goodIn_m (by decide +kernel) (by decide +kernel), tyX9_ok, nmX9, rfl, by decide +kernel⟩
set_option maxRecDepth 20000 in
theorem xq_cok10 : xq_cok 10 RX10 TX10 31 tyX10 := ⟨goodIn_m (by decide +kernel) (by decide +kernel), tyX10_ok, nmX10, rfl, by decide +kernel⟩
theorem xq_cls_ok {ci : Nat} {q : vw_C} (h : xq_cl[ci]? = some q) : ∃ ty, xq_cok ci q.1 q.2.1 q.2.2 ty := by
  match ci, h with
  | 0, h => cases h; exact ⟨_, xq_cok0⟩
  | 1, h => cases h; exact ⟨_, xq_cok1⟩
  | 2, h => cases h; exact ⟨_, xq_cok2⟩
  | 3, h => cases h; exact ⟨_, xq_cok3⟩
  | 4, h => cases h; exact ⟨_, xq_cok4⟩
  | 5, h => cases h; exact ⟨_, xq_cok5⟩
  | 6, h => cases h; exact ⟨_, xq_cok6⟩
  | 7, h => cases h; exact ⟨_, xq_cok7⟩
  | 8, h => cases h; exact ⟨_, xq_cok8⟩
  | 9, h => cases h; exact ⟨_, xq_cok9⟩
  | 10, h => cases h; exact ⟨_, xq_cok10⟩
  | _ + 11, h => simp [xq_cl] at h
def xq_byl : List (List Int32) := xq_strs.map (fun l => l.map Int32.ofInt)
def xq_lnl : List Nat := xq_strs.map List.length
/-- what nobody writes: the texts, the tables, the script -/
def xq_Im (B : Nat) (aI : Nat → Nat) (xs : Int → Int) (s : State) : Prop :=
  vk_S 10 xq_lnl xq_byl (fun i => aI (1100 + i)) (fun i => aI (1200 + i)) (fun q => B ≤ q) s s.heap ∧
  (∀ (j : Nat) (own : String) (idx : Nat) (tx : String) (i : Nat), xq_sof[j]? = some (own, idx, tx) → xq_stx[i]? = some tx → vk_R own idx tx (aI (1100 + i)) s) ∧
  (va_Z "PutBack" "ABOVE" "[I" (.ref (aI 1001)) (fun q => B ≤ q) s s.heap ∧ va_T .int (aI 1001) 7 (fun j => .int (Int32.ofInt ((xq_con 1001).getD j 0))) (fun q => B ≤ q) s s.heap) ∧
  (va_Z "PutBack" "BODIES" "[I" (.ref (aI 1002)) (fun q => B ≤ q) s s.heap ∧ va_T .int (aI 1002) 21 (fun j => .int (Int32.ofInt ((xq_con 1002).getD j 0))) (fun q => B ≤ q) s s.heap) ∧
  va_Z "java/lang/String" "COMPACT_STRINGS" "Z" (.int 1) (fun q => B ≤ q) s s.heap ∧
  va_Z "jdk/internal/util/Preconditions" "SIOOBE_FORMATTER" "Ljava/util/function/BiFunction;" (.ref (aI 1003)) (fun q => B ≤ q) s s.heap ∧
  (∃ n : Nat, xs (-1) = (n : Int) ∧ n < 2147483648 ∧ va_T .int (aI 999) n (fun j => .int (Int32.ofInt (xs (j : Int)))) (fun q => B ≤ q) s s.heap) ∧
  (∀ w ∈ lw_ns, va_Nw w s)
theorem xq_ns_warm {s U : State} {w : Jvm.Cond} (hw : w ∈ lw_ns) (hW : s.WarmedH U.vm) (h : va_Nw w s) : va_Nw w U := by
  have hn := (List.mem_filter.mp hw).2
  cases w <;> first | exact va_Nw.warmF hW h | exact va_Nw.warmM hW h | exact absurd hn Bool.false_ne_true
theorem xq_ns_same {s U : State} {w : Jvm.Cond} (hw : w ∈ lw_ns) (hv : s.vm = U.vm) (h : va_Nw w s) : va_Nw w U := by
  have hn := (List.mem_filter.mp hw).2
  cases w <;> first | exact va_Nw.same rfl hv h | exact absurd hn Bool.false_ne_true
theorem xq_wn_in {i : Nat} {w : Jvm.Cond} (h : xq_wn i w = true) : w ∈ lw_ns := by
  unfold xq_wn at h
  rw [Bool.and_eq_true] at h
  exact List.mem_filter.mpr ⟨List.mem_of_getElem? (of_decide_eq_true h.1), h.2⟩
theorem xq_Im_go {B : Nat} {aI : Nat → Nat} {xs : Int → Int} {s U : State} {H : Heap} {locs : List Loc} (h : xq_Im B aI xs s) (hW : s.WarmedH U.vm) (hU : U.heap = H) (hS : va_S (fun q => B ≤ q) s.heap H locs) : xq_Im B aI xs U := by
  have hv := hW.alike
  have hq := hS.2.1
  rw [← hU] at hq
  obtain ⟨h1, h2, ⟨h3, h3'⟩, ⟨h4, h4'⟩, h5, h6, ⟨n, h7, h8, h9⟩, h10⟩ := h
  exact ⟨(h1.moved hv).kept hq, fun j own idx tx i e1 e2 => (h2 j own idx tx i e1 e2).warm hW, ⟨(h3.moved hv).kept hq, (h3'.moved hv).kept hq⟩, ⟨(h4.moved hv).kept hq, (h4'.moved hv).kept hq⟩, (h5.moved hv).kept hq, (h6.moved hv).kept hq, ⟨n, h7, h8, (h9.moved hv).kept hq⟩, fun w hw => xq_ns_warm hw hW (h10 w hw)⟩
end
section
/-! THE ABSTRACT RUN IS THE MACHINE'S: one instruction -/
def xq_szs : Nat → Nat
  | 0 => 0
  | n + 1 => xq_szs n + xq_szl.getD n 0
theorem xq_szs_le {a b : Nat} (h : a ≤ b) : xq_szs a ≤ xq_szs b := by
  induction b with
  | zero => rw [Nat.le_zero.mp h]; exact Nat.le_refl _
  | succ b ih =>
    rcases Nat.lt_or_ge b a with q | q
    · rw [Nat.le_antisymm h q]; exact Nat.le_refl _
    · exact Nat.le_trans (ih q) (Nat.le_add_right _ _)
/-- the contract of a method, by its number, at a depth: Q holds of the answer and of the heap behind it -/
def xq_rm (lev nx bc : Nat) : Room := { frames := lev, cells := bc, slots := xq_szs (nx + bc) - xq_szs nx, locals := 64 * lev }
def xq_Pc (B : Nat) (D : va_G) (dA : Nat → ClassId) (aI : Nat → Nat) (xs : Int → Int) (as : List xq_V) (nx : Nat) (h : xq_H) : State → Prop := fun U => xq_Im B aI xs U ∧ va_K D xq_cl [(dA 0, .int), (dA 1, .boolean)] U ∧ xq_Rep B D dA xs nx h U.heap ∧ (∀ v ∈ as, xq_rv v) ∧ B ≤ U.heap.size ∧ (nx < 80 → U.heap.size = B + nx)
def xq_Qc (B : Nat) (D : va_G) (dA : Nat → ClassId) (aI : Nat → Nat) (xs : Int → Int) (nx : Nat) (Q : Option xq_V → xq_H → Prop) : Array Value → State → Outcome → State → Prop := fun _ st oc t =>
  (∃ (v : Option xq_V) (h' : xq_H), oc = .returned (v.map (xq_cv B aI)) ∧ (∀ w, v = some w → xq_rv w) ∧ Q v h' ∧ xq_Rep B D dA xs nx h' t.heap) ∧ va_F (fun q => B ≤ q) st t
def xq_met (lev y : Nat) (as : List xq_V) (nx : Nat) (h : xq_H) (Q : Option xq_V → xq_H → Prop) : Prop := ∀ (l : Launch) (B : Nat) (D : va_G) (dA : Nat → ClassId) (aI : Nat → Nat) (xs : Int → Int),
  Met l (xq_sg y).1 (Jvm.Cond.code (xq_sg y).1 (xq_sg y).2.1 (xq_sg y).2.2.1 (xq_sg y).2.2.2.1 :: lw_gd) (xq_rm lev nx (xq_sg y).2.2.2.2) (va_Pc (as.map (xq_cv B aI)) (xq_Pc B D dA aI xs as nx h)) (xq_Qc B D dA aI xs (nx + (xq_sg y).2.2.2.2) Q) (xq_sg y).2.2.2.2 (xq_szs (nx + (xq_sg y).2.2.2.2) - xq_szs nx) (fun q => B ≤ q)
def xq_C (LV : Nat) (y : Nat) (as : List xq_V) (nx : Nat) (h : xq_H) (Q : Option xq_V → xq_H → Prop) : Prop := ∃ lev, lev < LV ∧ xq_met lev y as nx h Q
theorem xq_goodIn {ws : List Jvm.Cond} (h : ∀ w ∈ ws, w ∈ lw_gd) : GoodIn lw_gd ws := fun w hw => ⟨h w hw, good_of_word (List.mem_filter.mp (h w hw)).2⟩
theorem xq_Im_same {B : Nat} {aI : Nat → Nat} {xs : Int → Int} {s U : State} (hv : U.vm = s.vm) (hh : U.heap = s.heap) (h : xq_Im B aI xs s) : xq_Im B aI xs U := by
  have ha : s.vm.Alike U.vm := by rw [hv]; exact Vm.Alike.refl _
  obtain ⟨h1, h2, ⟨h3, h3'⟩, ⟨h4, h4'⟩, h5, h6, ⟨n, h7, h8, h9⟩, h10⟩ := h
  unfold xq_Im
  rw [hh]
  exact ⟨h1.moved ha, fun j own idx tx i e1 e2 => vk_R.same hv (h2 j own idx tx i e1 e2), ⟨h3.moved ha, h3'.moved ha⟩, ⟨h4.moved ha, h4'.moved ha⟩, h5.moved ha, h6.moved ha, ⟨n, h7, h8, h9.moved ha⟩, fun w hw => xq_ns_same hw hv.symm (h10 w hw)⟩
theorem xq_blind {B : Nat} {D : va_G} {dA : Nat → ClassId} {aI : Nat → Nat} {xs : Int → Int} {as : List xq_V} {nx : Nat} {h : xq_H} : FrameBlind (va_Pc (as.map (xq_cv B aI)) (xq_Pc B D dA aI xs as nx h)) := by
  intro a U g mk hq
  obtain ⟨h1, h2, h3, h4, h5⟩ := hq
  exact ⟨h1, xq_Im_same (s := U) rfl rfl h2, va_K.moved (u := U) (U := U.calling g mk a) (Vm.Alike.refl U.vm) h3, h4, h5⟩
theorem xq_pop_spec : ∀ (n : Nat) (acc S vs S' : List xq_V), xq_pop n acc S = some (vs, S') → ∃ ws : List xq_V, ws.length = n ∧ S = ws.reverse ++ S' ∧ vs = ws ++ acc
  | 0, acc, S, vs, S', h => by cases h; exact ⟨[], rfl, rfl, rfl⟩
  | n + 1, acc, v :: S, vs, S', h => by
    obtain ⟨ws, h1, h2, h3⟩ := xq_pop_spec n (v :: acc) S vs S' h
    exact ⟨ws ++ [v], by simp [h1], by simp [h2], by simp [h3]⟩
  | _ + 1, _, [], _, _, h => by cases h
theorem xq_cat_spec (B : Nat) (aI : Nat → Nat) : ∀ (S : List xq_V), ((S.map (xq_cv B aI)).map fun v => v.category).sum = xq_cat S
  | [] => rfl
  | .inl v :: S => by
    rw [List.map_cons, List.map_cons, List.sum_cons, xq_cat_spec B aI S]
    show 1 + xq_cat S = xq_cat S + 1
    omega
  | .inr (.inl v) :: S => by
    rw [List.map_cons, List.map_cons, List.sum_cons, xq_cat_spec B aI S]
    show 2 + xq_cat S = xq_cat S + 2
    omega
  | .inr (.inr v) :: S => by
    rw [List.map_cons, List.map_cons, List.sum_cons, xq_cat_spec B aI S]
    show 1 + xq_cat S = xq_cat S + 1
    omega
theorem xq_cvI {B : Nat} {aI : Nat → Nat} (z : Int32) : xq_cv B aI (xI z.toInt) = .int z := by
  show Value.int (Int32.ofInt z.toInt) = .int z
  rw [Int32.ofInt_toInt]
theorem xq_ari_of {md : Nat} {x : Int} {K : Int → Prop} (h : xq_ari md x K) (z : Int32) (hz : z.toInt = x.bmod (2 ^ 32)) : K z.toInt := by
  have hw : x.bmod (2 ^ 32) = xq_wr x := by
    unfold xq_wr
    rw [Int.bmod_def]
    split <;> omega
  match md, h with
  | 0, ⟨h1, h2⟩ =>
    have : z.toInt = x := by
      rw [hz, hw]
      unfold xq_wr
      omega
    rw [this]
    exact h2
  | n + 1, h =>
    rw [hz, hw]
    exact h
theorem xq_div {a b : Int} (ha : 0 ≤ a ∧ 0 < b) (h1 : a ≤ 2147483647) (h2 : b ≤ 2147483647) : (Int32.ofInt a / Int32.ofInt b).toInt = a / b := by
  rw [Int32.toInt_div, xi_of (by omega), xi_of (by omega), Int.tdiv_eq_ediv_of_nonneg ha.1]
  have h3 : a / b ≤ a := Int.ediv_le_self _ ha.1
  have h4 : 0 ≤ a / b := Int.ediv_nonneg ha.1 (Int.le_of_lt ha.2)
  rw [Int.bmod_def]
  split <;> omega
theorem xq_rem {a b : Int} (ha : 0 ≤ a ∧ 0 < b) (h1 : a ≤ 2147483647) (h2 : b ≤ 2147483647) : (Int32.ofInt a - Int32.ofInt a / Int32.ofInt b * Int32.ofInt b).toInt = a % b := by
  have h3 : a / b ≤ a := Int.ediv_le_self _ ha.1
  have h4 : 0 ≤ a / b := Int.ediv_nonneg ha.1 (Int.le_of_lt ha.2)
  have h5 := Int.emod_add_mul_ediv a b
  have h6 := Int.emod_nonneg a (Int.ne_of_gt ha.2)
  have h7 := Int.emod_lt_of_pos a ha.2
  have h8 : a / b * b = a - a % b := by rw [Int.mul_comm]; omega
  rw [Int32.toInt_sub, Int32.toInt_mul, xq_div ha h1 h2, xi_of (by omega), xi_of (by omega), h8]
  rw [show (a - a % b).bmod (2 ^ 32) = a - a % b by rw [Int.bmod_def]; split <;> omega]
  rw [show a - (a - a % b) = a % b by omega]
  rw [Int.bmod_def]; split <;> omega
theorem xq_divL {a b : Int} (ha : 0 ≤ a ∧ 0 < b) (h1 : a ≤ 9223372036854775807) (h2 : b ≤ 9223372036854775807) : (Int64.ofInt a / Int64.ofInt b).toInt = a / b := by
  rw [Int64.toInt_div, xj_of (by omega), xj_of (by omega), Int.tdiv_eq_ediv_of_nonneg ha.1]
  have h3 : a / b ≤ a := Int.ediv_le_self _ ha.1
  have h4 : 0 ≤ a / b := Int.ediv_nonneg ha.1 (Int.le_of_lt ha.2)
  rw [Int.bmod_def]
  split <;> omega
theorem xq_remL {a b : Int} (ha : 0 ≤ a ∧ 0 < b) (h1 : a ≤ 9223372036854775807) (h2 : b ≤ 9223372036854775807) : (Int64.ofInt a - Int64.ofInt a / Int64.ofInt b * Int64.ofInt b).toInt = a % b := by
  have h3 : a / b ≤ a := Int.ediv_le_self _ ha.1
  have h4 : 0 ≤ a / b := Int.ediv_nonneg ha.1 (Int.le_of_lt ha.2)
  have h5 := Int.emod_add_mul_ediv a b
  have h6 := Int.emod_nonneg a (Int.ne_of_gt ha.2)
  have h7 := Int.emod_lt_of_pos a ha.2
  have h8 : a / b * b = a - a % b := by rw [Int.mul_comm]; omega
  rw [Int64.toInt_sub, Int64.toInt_mul, xq_divL ha h1 h2, xj_of (by omega), xj_of (by omega), h8]
  rw [show (a - a % b).bmod (2 ^ 64) = a - a % b by rw [Int.bmod_def]; split <;> omega]
  rw [show a - (a - a % b) = a % b by omega]
  rw [Int.bmod_def]; split <;> omega
theorem xq_ne0 {b : Int} (hb : 0 < b) (h2 : b ≤ 2147483647) : ¬ Int32.ofInt b = 0 := by
  intro z
  have := congrArg Int32.toInt z
  rw [xi_of (by omega)] at this
  simp at this
  omega
theorem xq_ne0L {b : Int} (hb : 0 < b) (h2 : b ≤ 9223372036854775807) : ¬ Int64.ofInt b = 0 := by
  intro z
  have := congrArg Int64.toInt z
  rw [xj_of (by omega)] at this
  simp at this
  omega
theorem xq_ltI {a b : Int} (ha : -2147483648 ≤ a ∧ a ≤ 2147483647) (hb : -2147483648 ≤ b ∧ b ≤ 2147483647) : Int32.ofInt a < Int32.ofInt b ↔ a < b := by
  rw [Int32.lt_iff_toInt_lt, xi_of ha, xi_of hb]
theorem xq_leI {a b : Int} (ha : -2147483648 ≤ a ∧ a ≤ 2147483647) (hb : -2147483648 ≤ b ∧ b ≤ 2147483647) : Int32.ofInt a ≤ Int32.ofInt b ↔ a ≤ b := by
  rw [Int32.le_iff_toInt_le, xi_of ha, xi_of hb]
theorem xq_eqI {a b : Int} (ha : -2147483648 ≤ a ∧ a ≤ 2147483647) (hb : -2147483648 ≤ b ∧ b ≤ 2147483647) : Int32.ofInt a = Int32.ofInt b ↔ a = b := by
  rw [← Int32.toInt_inj, xi_of ha, xi_of hb]
def xq_KW (p : Program) (l : Launch) (e : Env) (R : Room) (s : State) (m : MethodId) (args : Array Value) (below : List Frame) (meth : Method) (c : Code) (B : Nat) (D : va_G) (dA : Nat → ClassId) (aI : Nat → Nat) (xs : Int → Int) (rows : List (List xq_Row)) (nx0 : Nat) (Qf : State → Prop) : xq_KT :=
  fun n L S nx h => ∀ (H : Heap) (locs : List Loc) (ls : Array Slot), xq_Rep B D dA xs nx h H → va_S (fun q => B ≤ q) s.heap H locs → xq_lv B aI ls c.maxLocals L → (∀ v ∈ S, xq_rv v) → nx0 ≤ nx → W p l e R s m args below meth c H locs (nx - nx0) (xq_szs nx - xq_szs nx0) Qf (F0 m (xq_rp rows n) ls (S.map (xq_cv B aI)))
/-- what holds of a method from its entry on -/
def xq_Cx (p : Program) (R : Room) (s : State) (m : MethodId) (args : Array Value) (meth : Method) (c : Code) (B : Nat) (D : va_G) (dA : Nat → ClassId) (aI : Nat → Nat) (xs : Int → Int) (own : String) (ini : Bool) (rt : Option FieldType) (rows : List (List xq_Row)) (nx0 nxE LV : Nat) : Prop :=
  p.tables.exec = Jvm.exec ∧ s.vm.findClass own = some m.cls ∧ (∀ w ∈ lw_gd, w.before args s = true) ∧ va_K D xq_cl [(dA 0, .int), (dA 1, .boolean)] s ∧ xq_Im B aI xs s ∧ xq_okM c.code own ini rt rows = true ∧ (B ≤ s.heap.size ∧ (nx0 < 80 → s.heap.size = B + nx0)) ∧ (nxE - nx0 ≤ R.cells ∧ xq_szs nxE - xq_szs nx0 ≤ R.slots ∧ LV ≤ R.frames ∧ 64 * LV ≤ R.locals) ∧ (ini = true → meth.name = "<init>") ∧ nxE ≤ 81 ∧ 1 ≤ LV
theorem xq_row {cc : ByteArray} {own : String} {ini : Bool} {rt : Option FieldType} {rows : List (List xq_Row)} {n : Nat} {r : xq_Row} (h : xq_okM cc own ini rt rows = true) (hr : xq_at rows n = some r) : xq_okb cc own ini rt (xq_rp rows) r = true ∧ xq_rp rows n = r.2.1.1 := by
  refine ⟨?_, by simp [xq_rp, hr]⟩
  unfold xq_at at hr
  have h1 := List.mem_of_getElem? hr
  by_cases hl : n / 16 < rows.length
  · have h2 : rows.getD (n / 16) [] ∈ rows := by
      rw [List.getD_eq_getElem?_getD, List.getElem?_eq_getElem hl]
      exact List.getElem_mem hl
    exact List.all_eq_true.mp (List.all_eq_true.mp h _ h2) _ h1
  · rw [List.getD_eq_getElem?_getD, List.getElem?_eq_none (by omega)] at h1
    simp at h1
theorem xq_wd_in {i : Nat} {w : Jvm.Cond} (h : xq_wd i w = true) : w ∈ lw_gd := by
  unfold xq_wd at h
  rw [Bool.and_eq_true] at h
  exact List.mem_filter.mpr ⟨List.mem_of_getElem? (of_decide_eq_true h.1), h.2⟩
theorem xj_rg (x : Int64) : -9223372036854775808 ≤ x.toInt ∧ x.toInt ≤ 9223372036854775807 := ⟨x.le_toInt, Int.le_of_lt_add_one x.toInt_lt⟩
theorem xq_cvJ {B : Nat} {aI : Nat → Nat} (z : Int64) : xq_cv B aI (xJ z.toInt) = .long z := by
  show Value.long (Int64.ofInt z.toInt) = .long z
  rw [Int64.ofInt_toInt]
theorem xq_lcmp {a b : Int} (ha : -9223372036854775808 ≤ a ∧ a ≤ 9223372036854775807) (hb : -9223372036854775808 ≤ b ∧ b ≤ 9223372036854775807) : (lg_cmp (Int64.ofInt a) (Int64.ofInt b)).toInt = xq_lc a b := by
  unfold lg_cmp xq_lc
  simp only [gt_iff_lt, Int64.lt_iff_toInt_lt, ← Int64.toInt_inj, xj_of ha, xj_of hb]
  by_cases h1 : b < a
  · rw [if_pos h1, if_neg (by omega), if_neg (by omega)]; rfl
  · by_cases h2 : a = b
    · rw [if_neg h1, if_pos h2, if_neg (by omega), if_pos h2]; rfl
    · rw [if_neg h1, if_neg h2, if_pos (by omega)]; rfl
theorem xq_clsA : ∀ o : Fin 80, (match xq_cls o.val with | .inr (t, n) => Nat.blt n 1000 && Nat.blt t 2 | .inl ci => Nat.blt ci 11) = true := by decide +kernel
theorem xq_clsn {o t n : Nat} (ho : o < 80) (h : xq_cls o = .inr (t, n)) : n < 1000 ∧ t < 2 := by
  have := xq_clsA ⟨o, ho⟩
  dsimp only at this
  rw [h] at this
  simpa [Nat.blt_eq] using this
theorem xq_strf : ∀ j : Nat, j < 10 → xq_lnl.getD j 0 = (xq_str j).length ∧ xq_byl.getD j [] = (xq_str j).map Int32.ofInt ∧ ∀ x ∈ xq_str j, 0 ≤ x ∧ x ≤ 127 := by
  intro j hj
  rcases (show j = 0 ∨ j = 1 ∨ j = 2 ∨ j = 3 ∨ j = 4 ∨ j = 5 ∨ j = 6 ∨ j = 7 ∨ j = 8 ∨ j = 9 by omega) with rfl | rfl | rfl | rfl | rfl | rfl | rfl | rfl | rfl | rfl <;> exact ⟨rfl, rfl, by decide⟩
theorem xq_strn (j : Nat) : (xq_str j).length < 100 := by
  rcases Nat.lt_or_ge j 10 with q | q
  · rcases (show j = 0 ∨ j = 1 ∨ j = 2 ∨ j = 3 ∨ j = 4 ∨ j = 5 ∨ j = 6 ∨ j = 7 ∨ j = 8 ∨ j = 9 by omega) with rfl | rfl | rfl | rfl | rfl | rfl | rfl | rfl | rfl | rfl <;> decide
  · unfold xq_str
    rw [List.getD_eq_getElem?_getD, List.getElem?_eq_none (by simpa [xq_strs] using q)]
    decide
theorem xq_fs_set {B : Nat} {h : xq_H} {o ci k : Nat} {x : Int} {w : Value} (hk : k < (xq_fs B h o ci).length) (hw : xq_fv B (xq_u h o k x) o ci k = w) : xq_fs B (xq_u h o k x) o ci = (xq_fs B h o ci).set k w := by
  apply List.ext_getElem?
  intro j
  have hkn : k < xq_nfl.getD ci 0 := by simpa [xq_fs] using hk
  by_cases hj : j = k
  · subst hj
    rw [List.getElem?_set_self hk]
    unfold xq_fs
    rw [List.getElem?_map, List.getElem?_range hkn]
    exact congrArg some hw
  · rw [List.getElem?_set_ne (Ne.symm hj)]
    unfold xq_fs
    rw [List.getElem?_map, List.getElem?_map]
    by_cases hjn : j < xq_nfl.getD ci 0
    · rw [List.getElem?_range hjn]
      show some (xq_fv B (xq_u h o k x) o ci j) = some (xq_fv B h o ci j)
      have e : xq_u h o k x o j = h o j := by
        unfold xq_u
        rw [if_pos rfl, if_neg (by omega)]
      unfold xq_fv
      rw [e]
    · rw [List.getElem?_eq_none (by simpa using hjn)]
      rfl
section XQ
variable {p : Program} {l : Launch} {e : Env} {R : Room} {s : State} {m : MethodId} {args : Array Value} {below : List Frame} {meth : Method} {c : Code} {B : Nat} {D : va_G} {dA : Nat → ClassId} {aI : Nat → Nat} {xs : Int → Int} {own : String} {ini : Bool} {rt : Option FieldType} {rows : List (List xq_Row)} {nx0 nxE LV : Nat} {Qf : State → Prop}
variable {K' : xq_KT} {pc : Nat} {L : xq_L} {S : List xq_V} {nx : Nat} {h : xq_H} {rpc len nxt : Nat} {ax : List Nat} {vs : List Int}
/-- the next instruction of the same heap -/
theorem xq_fin {n' : Nat} {L' : xq_L} {S' : List xq_V} {H : Heap} {locs : List Loc} {ls : Array Slot} (hle : ∀ pc L S nx h, K' pc L S nx h → xq_KW p l e R s m args below meth c B D dA aI xs rows nx0 Qf pc L S nx h) (hk : K' n' L' S' nx h) (hR : xq_Rep B D dA xs nx h H) (hS : va_S (fun q => B ≤ q) s.heap H locs) (hl : xq_lv B aI ls c.maxLocals L') (hr : ∀ v ∈ S', xq_rv v) (hn : nx0 ≤ nx) {g : Nat} (hg : xq_rp rows n' = g) {st : List Value} (hst : S'.map (xq_cv B aI) = st) : W p l e R s m args below meth c H locs (nx - nx0) (xq_szs nx - xq_szs nx0) Qf (F0 m g ls st) := by
  subst hg; subst hst
  exact hle _ _ _ _ _ hk H locs ls hR hS hl hr hn
theorem xq_rv_c {v : xq_V} {S' : List xq_V} (hv : xq_rv v) (hr : ∀ w ∈ S', xq_rv w) : ∀ w ∈ v :: S', xq_rv w := fun w h => by
  rcases List.mem_cons.mp h with rfl | h
  · exact hv
  · exact hr _ h
theorem xq_rv_t {v : xq_V} {S' : List xq_V} (hr : ∀ w ∈ v :: S', xq_rv w) : ∀ w ∈ S', xq_rv w := fun w h => hr _ (List.mem_cons_of_mem _ h)
theorem xq_rv_h {v : xq_V} {S' : List xq_V} (hr : ∀ w ∈ v :: S', xq_rv w) : xq_rv v := hr _ List.mem_cons_self
set_option maxHeartbeats 1000000 in
theorem xq_s_iload_n {Cq : Nat → List xq_V → Nat → xq_H → (Option xq_V → xq_H → Prop) → Prop} {Qx : Option xq_V → xq_H → Prop} {k : Fin 4} (Cx : xq_Cx p R s m args meth c B D dA aI xs own ini rt rows nx0 nxE LV) (hle : ∀ pc L S nx h, K' pc L S nx h → xq_KW p l e R s m args below meth c B D dA aI xs rows nx0 Qf pc L S nx h)
    (hrow : xq_at rows pc = some (.iload_n k, (rpc, len, nxt), ax, vs)) (hex : xq_exec Cq nxE Qx K' (some (.iload_n k, (rpc, len, nxt), ax, vs)) L S nx h) : xq_KW p l e R s m args below meth c B D dA aI xs rows nx0 Qf pc L S nx h := by
  obtain ⟨hx, hown, hts, hKK, hIm, hok, hB, hRm, hini, hnE, hLV⟩ := Cx
  obtain ⟨ho, hpc⟩ := xq_row hok hrow
  simp only [xq_okb, xq_tm, xq_ts, xq_el, Bool.and_eq_true, Bool.or_eq_true, Bool.false_eq_true, false_or, decide_eq_true_eq, Nat.beq_eq] at ho
  intro H locs ls hR hS hl hr hn
  dsimp only at hpc
  rw [hpc]
  unfold xq_exec at hex
  dsimp only at hex
  split at hex
  · rename_i i hg
    obtain ⟨⟨⟨hd, hlen⟩, hnx⟩, hz⟩ := ho
    subst hlen
    refine lv_iload_n hx rfl hd rfl (hl.2.2.2 _ _ hg).1 ?_
    exact xq_fin hle hex hR hS hl (xq_rv_c (hl.2.2.2 _ _ hg).2 hr) hn hnx rfl
  · exact hex.elim

set_option maxHeartbeats 1000000 in
theorem xq_s_iload {Cq : Nat → List xq_V → Nat → xq_H → (Option xq_V → xq_H → Prop) → Prop} {Qx : Option xq_V → xq_H → Prop} {k : Nat} (Cx : xq_Cx p R s m args meth c B D dA aI xs own ini rt rows nx0 nxE LV) (hle : ∀ pc L S nx h, K' pc L S nx h → xq_KW p l e R s m args below meth c B D dA aI xs rows nx0 Qf pc L S nx h)
    (hrow : xq_at rows pc = some (.iload k, (rpc, len, nxt), ax, vs)) (hex : xq_exec Cq nxE Qx K' (some (.iload k, (rpc, len, nxt), ax, vs)) L S nx h) : xq_KW p l e R s m args below meth c B D dA aI xs rows nx0 Qf pc L S nx h := by
  obtain ⟨hx, hown, hts, hKK, hIm, hok, hB, hRm, hini, hnE, hLV⟩ := Cx
  obtain ⟨ho, hpc⟩ := xq_row hok hrow
  simp only [xq_okb, xq_tm, xq_ts, xq_el, Bool.and_eq_true, Bool.or_eq_true, Bool.false_eq_true, false_or, decide_eq_true_eq, Nat.beq_eq] at ho
  intro H locs ls hR hS hl hr hn
  dsimp only at hpc
  rw [hpc]
  unfold xq_exec at hex
  dsimp only at hex
  split at hex
  · rename_i i hg
    obtain ⟨⟨⟨hd, hlen⟩, hnx⟩, hz⟩ := ho
    subst hlen
    refine lv_iload hx rfl hd (hl.2.2.2 _ _ hg).1 ?_
    exact xq_fin hle hex hR hS hl (xq_rv_c (hl.2.2.2 _ _ hg).2 hr) hn hnx rfl
  · exact hex.elim

set_option maxHeartbeats 1000000 in
theorem xq_s_lload_n {Cq : Nat → List xq_V → Nat → xq_H → (Option xq_V → xq_H → Prop) → Prop} {Qx : Option xq_V → xq_H → Prop} {k : Fin 4} (Cx : xq_Cx p R s m args meth c B D dA aI xs own ini rt rows nx0 nxE LV) (hle : ∀ pc L S nx h, K' pc L S nx h → xq_KW p l e R s m args below meth c B D dA aI xs rows nx0 Qf pc L S nx h)
    (hrow : xq_at rows pc = some (.lload_n k, (rpc, len, nxt), ax, vs)) (hex : xq_exec Cq nxE Qx K' (some (.lload_n k, (rpc, len, nxt), ax, vs)) L S nx h) : xq_KW p l e R s m args below meth c B D dA aI xs rows nx0 Qf pc L S nx h := by
  obtain ⟨hx, hown, hts, hKK, hIm, hok, hB, hRm, hini, hnE, hLV⟩ := Cx
  obtain ⟨ho, hpc⟩ := xq_row hok hrow
  simp only [xq_okb, xq_tm, xq_ts, xq_el, Bool.and_eq_true, Bool.or_eq_true, Bool.false_eq_true, false_or, decide_eq_true_eq, Nat.beq_eq] at ho
  intro H locs ls hR hS hl hr hn
  dsimp only at hpc
  rw [hpc]
  unfold xq_exec at hex
  dsimp only at hex
  split at hex
  · rename_i i hg
    obtain ⟨⟨⟨hd, hlen⟩, hnx⟩, hz⟩ := ho
    subst hlen
    refine lv_lload_n hx rfl hd rfl (hl.2.2.2 _ _ hg).1 ?_
    exact xq_fin hle hex hR hS hl (xq_rv_c (hl.2.2.2 _ _ hg).2 hr) hn hnx rfl
  · exact hex.elim

set_option maxHeartbeats 1000000 in
theorem xq_s_lload {Cq : Nat → List xq_V → Nat → xq_H → (Option xq_V → xq_H → Prop) → Prop} {Qx : Option xq_V → xq_H → Prop} {k : Nat} (Cx : xq_Cx p R s m args meth c B D dA aI xs own ini rt rows nx0 nxE LV) (hle : ∀ pc L S nx h, K' pc L S nx h → xq_KW p l e R s m args below meth c B D dA aI xs rows nx0 Qf pc L S nx h)
    (hrow : xq_at rows pc = some (.lload k, (rpc, len, nxt), ax, vs)) (hex : xq_exec Cq nxE Qx K' (some (.lload k, (rpc, len, nxt), ax, vs)) L S nx h) : xq_KW p l e R s m args below meth c B D dA aI xs rows nx0 Qf pc L S nx h := by
  obtain ⟨hx, hown, hts, hKK, hIm, hok, hB, hRm, hini, hnE, hLV⟩ := Cx
  obtain ⟨ho, hpc⟩ := xq_row hok hrow
  simp only [xq_okb, xq_tm, xq_ts, xq_el, Bool.and_eq_true, Bool.or_eq_true, Bool.false_eq_true, false_or, decide_eq_true_eq, Nat.beq_eq] at ho
  intro H locs ls hR hS hl hr hn
  dsimp only at hpc
  rw [hpc]
  unfold xq_exec at hex
  dsimp only at hex
  split at hex
  · rename_i i hg
    obtain ⟨⟨⟨hd, hlen⟩, hnx⟩, hz⟩ := ho
    subst hlen
    refine lv_lload hx rfl hd (hl.2.2.2 _ _ hg).1 ?_
    exact xq_fin hle hex hR hS hl (xq_rv_c (hl.2.2.2 _ _ hg).2 hr) hn hnx rfl
  · exact hex.elim

set_option maxHeartbeats 1000000 in
theorem xq_s_aload_n {Cq : Nat → List xq_V → Nat → xq_H → (Option xq_V → xq_H → Prop) → Prop} {Qx : Option xq_V → xq_H → Prop} {k : Fin 4} (Cx : xq_Cx p R s m args meth c B D dA aI xs own ini rt rows nx0 nxE LV) (hle : ∀ pc L S nx h, K' pc L S nx h → xq_KW p l e R s m args below meth c B D dA aI xs rows nx0 Qf pc L S nx h)
    (hrow : xq_at rows pc = some (.aload_n k, (rpc, len, nxt), ax, vs)) (hex : xq_exec Cq nxE Qx K' (some (.aload_n k, (rpc, len, nxt), ax, vs)) L S nx h) : xq_KW p l e R s m args below meth c B D dA aI xs rows nx0 Qf pc L S nx h := by
  obtain ⟨hx, hown, hts, hKK, hIm, hok, hB, hRm, hini, hnE, hLV⟩ := Cx
  obtain ⟨ho, hpc⟩ := xq_row hok hrow
  simp only [xq_okb, xq_tm, xq_ts, xq_el, Bool.and_eq_true, Bool.or_eq_true, Bool.false_eq_true, false_or, decide_eq_true_eq, Nat.beq_eq] at ho
  intro H locs ls hR hS hl hr hn
  dsimp only at hpc
  rw [hpc]
  unfold xq_exec at hex
  dsimp only at hex
  split at hex
  · rename_i i hg
    obtain ⟨⟨⟨hd, hlen⟩, hnx⟩, hz⟩ := ho
    subst hlen
    refine lv_aload_n hx rfl hd rfl (hl.2.2.2 _ _ hg).1 ?_
    exact xq_fin hle hex hR hS hl (xq_rv_c (hl.2.2.2 _ _ hg).2 hr) hn hnx rfl
  · exact hex.elim

set_option maxHeartbeats 1000000 in
theorem xq_s_aload {Cq : Nat → List xq_V → Nat → xq_H → (Option xq_V → xq_H → Prop) → Prop} {Qx : Option xq_V → xq_H → Prop} {k : Nat} (Cx : xq_Cx p R s m args meth c B D dA aI xs own ini rt rows nx0 nxE LV) (hle : ∀ pc L S nx h, K' pc L S nx h → xq_KW p l e R s m args below meth c B D dA aI xs rows nx0 Qf pc L S nx h)
    (hrow : xq_at rows pc = some (.aload k, (rpc, len, nxt), ax, vs)) (hex : xq_exec Cq nxE Qx K' (some (.aload k, (rpc, len, nxt), ax, vs)) L S nx h) : xq_KW p l e R s m args below meth c B D dA aI xs rows nx0 Qf pc L S nx h := by
  obtain ⟨hx, hown, hts, hKK, hIm, hok, hB, hRm, hini, hnE, hLV⟩ := Cx
  obtain ⟨ho, hpc⟩ := xq_row hok hrow
  simp only [xq_okb, xq_tm, xq_ts, xq_el, Bool.and_eq_true, Bool.or_eq_true, Bool.false_eq_true, false_or, decide_eq_true_eq, Nat.beq_eq] at ho
  intro H locs ls hR hS hl hr hn
  dsimp only at hpc
  rw [hpc]
  unfold xq_exec at hex
  dsimp only at hex
  split at hex
  · rename_i i hg
    obtain ⟨⟨⟨hd, hlen⟩, hnx⟩, hz⟩ := ho
    subst hlen
    refine lv_aload hx rfl hd (hl.2.2.2 _ _ hg).1 ?_
    exact xq_fin hle hex hR hS hl (xq_rv_c (hl.2.2.2 _ _ hg).2 hr) hn hnx rfl
  · exact hex.elim

set_option maxHeartbeats 1000000 in
theorem xq_s_istore_n {Cq : Nat → List xq_V → Nat → xq_H → (Option xq_V → xq_H → Prop) → Prop} {Qx : Option xq_V → xq_H → Prop} {k : Fin 4} (Cx : xq_Cx p R s m args meth c B D dA aI xs own ini rt rows nx0 nxE LV) (hle : ∀ pc L S nx h, K' pc L S nx h → xq_KW p l e R s m args below meth c B D dA aI xs rows nx0 Qf pc L S nx h)
    (hrow : xq_at rows pc = some (.istore_n k, (rpc, len, nxt), ax, vs)) (hex : xq_exec Cq nxE Qx K' (some (.istore_n k, (rpc, len, nxt), ax, vs)) L S nx h) : xq_KW p l e R s m args below meth c B D dA aI xs rows nx0 Qf pc L S nx h := by
  obtain ⟨hx, hown, hts, hKK, hIm, hok, hB, hRm, hini, hnE, hLV⟩ := Cx
  obtain ⟨ho, hpc⟩ := xq_row hok hrow
  simp only [xq_okb, xq_tm, xq_ts, xq_el, Bool.and_eq_true, Bool.or_eq_true, Bool.false_eq_true, false_or, decide_eq_true_eq, Nat.beq_eq] at ho
  intro H locs ls hR hS hl hr hn
  dsimp only at hpc
  rw [hpc]
  rcases S with _ | ⟨(a | a | a), S'⟩ <;> try exact False.elim hex
  unfold xq_exec at hex
  dsimp only at hex
  unfold xq_st at hex
  split at hex
  · rename_i hb
    split at hex
    · rename_i hp
      obtain ⟨⟨⟨hd, hlen⟩, hnx⟩, hz⟩ := ho
      subst hlen
      refine lv_istore_n hx rfl hd rfl (xq_ll_has hl) (by rw [← hl.2.2.1]; exact Nat.blt_eq.mp hb) rfl (fun ls' hl' => ?_)
      exact xq_fin hle (xq_nrm_s _ _ hex) hR hS (xq_store1 hl hp (xq_rv_h hr) hl') (xq_rv_t hr) hn hnx rfl
    · exact hex.elim
  · exact hex.elim

set_option maxHeartbeats 1000000 in
theorem xq_s_istore {Cq : Nat → List xq_V → Nat → xq_H → (Option xq_V → xq_H → Prop) → Prop} {Qx : Option xq_V → xq_H → Prop} {k : Nat} (Cx : xq_Cx p R s m args meth c B D dA aI xs own ini rt rows nx0 nxE LV) (hle : ∀ pc L S nx h, K' pc L S nx h → xq_KW p l e R s m args below meth c B D dA aI xs rows nx0 Qf pc L S nx h)
    (hrow : xq_at rows pc = some (.istore k, (rpc, len, nxt), ax, vs)) (hex : xq_exec Cq nxE Qx K' (some (.istore k, (rpc, len, nxt), ax, vs)) L S nx h) : xq_KW p l e R s m args below meth c B D dA aI xs rows nx0 Qf pc L S nx h := by
  obtain ⟨hx, hown, hts, hKK, hIm, hok, hB, hRm, hini, hnE, hLV⟩ := Cx
  obtain ⟨ho, hpc⟩ := xq_row hok hrow
  simp only [xq_okb, xq_tm, xq_ts, xq_el, Bool.and_eq_true, Bool.or_eq_true, Bool.false_eq_true, false_or, decide_eq_true_eq, Nat.beq_eq] at ho
  intro H locs ls hR hS hl hr hn
  dsimp only at hpc
  rw [hpc]
  rcases S with _ | ⟨(a | a | a), S'⟩ <;> try exact False.elim hex
  unfold xq_exec at hex
  dsimp only at hex
  unfold xq_st at hex
  split at hex
  · rename_i hb
    split at hex
    · rename_i hp
      obtain ⟨⟨⟨hd, hlen⟩, hnx⟩, hz⟩ := ho
      subst hlen
      refine lv_istore hx rfl hd (xq_ll_has hl) (by rw [← hl.2.2.1]; exact Nat.blt_eq.mp hb) rfl (fun ls' hl' => ?_)
      exact xq_fin hle (xq_nrm_s _ _ hex) hR hS (xq_store1 hl hp (xq_rv_h hr) hl') (xq_rv_t hr) hn hnx rfl
    · exact hex.elim
  · exact hex.elim

set_option maxHeartbeats 1000000 in
theorem xq_s_astore_n {Cq : Nat → List xq_V → Nat → xq_H → (Option xq_V → xq_H → Prop) → Prop} {Qx : Option xq_V → xq_H → Prop} {k : Fin 4} (Cx : xq_Cx p R s m args meth c B D dA aI xs own ini rt rows nx0 nxE LV) (hle : ∀ pc L S nx h, K' pc L S nx h → xq_KW p l e R s m args below meth c B D dA aI xs rows nx0 Qf pc L S nx h)
    (hrow : xq_at rows pc = some (.astore_n k, (rpc, len, nxt), ax, vs)) (hex : xq_exec Cq nxE Qx K' (some (.astore_n k, (rpc, len, nxt), ax, vs)) L S nx h) : xq_KW p l e R s m args below meth c B D dA aI xs rows nx0 Qf pc L S nx h := by
  obtain ⟨hx, hown, hts, hKK, hIm, hok, hB, hRm, hini, hnE, hLV⟩ := Cx
  obtain ⟨ho, hpc⟩ := xq_row hok hrow
  simp only [xq_okb, xq_tm, xq_ts, xq_el, Bool.and_eq_true, Bool.or_eq_true, Bool.false_eq_true, false_or, decide_eq_true_eq, Nat.beq_eq] at ho
  intro H locs ls hR hS hl hr hn
  dsimp only at hpc
  rw [hpc]
  rcases S with _ | ⟨(a | a | a), S'⟩ <;> try exact False.elim hex
  unfold xq_exec at hex
  dsimp only at hex
  unfold xq_st at hex
  split at hex
  · rename_i hb
    split at hex
    · rename_i hp
      obtain ⟨⟨⟨hd, hlen⟩, hnx⟩, hz⟩ := ho
      subst hlen
      refine lv_astore_n hx rfl hd rfl (xq_ll_has hl) (by rw [← hl.2.2.1]; exact Nat.blt_eq.mp hb) rfl (fun ls' hl' => ?_)
      exact xq_fin hle (xq_nrm_s _ _ hex) hR hS (xq_store1 hl hp (xq_rv_h hr) hl') (xq_rv_t hr) hn hnx rfl
    · exact hex.elim
  · exact hex.elim

set_option maxHeartbeats 1000000 in
theorem xq_s_astore {Cq : Nat → List xq_V → Nat → xq_H → (Option xq_V → xq_H → Prop) → Prop} {Qx : Option xq_V → xq_H → Prop} {k : Nat} (Cx : xq_Cx p R s m args meth c B D dA aI xs own ini rt rows nx0 nxE LV) (hle : ∀ pc L S nx h, K' pc L S nx h → xq_KW p l e R s m args below meth c B D dA aI xs rows nx0 Qf pc L S nx h)
    (hrow : xq_at rows pc = some (.astore k, (rpc, len, nxt), ax, vs)) (hex : xq_exec Cq nxE Qx K' (some (.astore k, (rpc, len, nxt), ax, vs)) L S nx h) : xq_KW p l e R s m args below meth c B D dA aI xs rows nx0 Qf pc L S nx h := by
  obtain ⟨hx, hown, hts, hKK, hIm, hok, hB, hRm, hini, hnE, hLV⟩ := Cx
  obtain ⟨ho, hpc⟩ := xq_row hok hrow
  simp only [xq_okb, xq_tm, xq_ts, xq_el, Bool.and_eq_true, Bool.or_eq_true, Bool.false_eq_true, false_or, decide_eq_true_eq, Nat.beq_eq] at ho
  intro H locs ls hR hS hl hr hn
  dsimp only at hpc
  rw [hpc]
  rcases S with _ | ⟨(a | a | a), S'⟩ <;> try exact False.elim hex
  unfold xq_exec at hex
  dsimp only at hex
  unfold xq_st at hex
  split at hex
  · rename_i hb
    split at hex
    · rename_i hp
      obtain ⟨⟨⟨hd, hlen⟩, hnx⟩, hz⟩ := ho
      subst hlen
      refine lv_astore hx rfl hd (xq_ll_has hl) (by rw [← hl.2.2.1]; exact Nat.blt_eq.mp hb) rfl (fun ls' hl' => ?_)
      exact xq_fin hle (xq_nrm_s _ _ hex) hR hS (xq_store1 hl hp (xq_rv_h hr) hl') (xq_rv_t hr) hn hnx rfl
    · exact hex.elim
  · exact hex.elim

set_option maxHeartbeats 1000000 in
theorem xq_s_lstore {Cq : Nat → List xq_V → Nat → xq_H → (Option xq_V → xq_H → Prop) → Prop} {Qx : Option xq_V → xq_H → Prop} {k : Nat} (Cx : xq_Cx p R s m args meth c B D dA aI xs own ini rt rows nx0 nxE LV) (hle : ∀ pc L S nx h, K' pc L S nx h → xq_KW p l e R s m args below meth c B D dA aI xs rows nx0 Qf pc L S nx h)
    (hrow : xq_at rows pc = some (.lstore k, (rpc, len, nxt), ax, vs)) (hex : xq_exec Cq nxE Qx K' (some (.lstore k, (rpc, len, nxt), ax, vs)) L S nx h) : xq_KW p l e R s m args below meth c B D dA aI xs rows nx0 Qf pc L S nx h := by
  obtain ⟨hx, hown, hts, hKK, hIm, hok, hB, hRm, hini, hnE, hLV⟩ := Cx
  obtain ⟨ho, hpc⟩ := xq_row hok hrow
  simp only [xq_okb, xq_tm, xq_ts, xq_el, Bool.and_eq_true, Bool.or_eq_true, Bool.false_eq_true, false_or, decide_eq_true_eq, Nat.beq_eq] at ho
  intro H locs ls hR hS hl hr hn
  dsimp only at hpc
  rw [hpc]
  rcases S with _ | ⟨(a | a | a), S'⟩ <;> try exact False.elim hex
  unfold xq_exec at hex
  dsimp only at hex
  unfold xq_st2 at hex
  split at hex
  · rename_i hb
    split at hex
    · rename_i hp
      obtain ⟨⟨⟨hd, hlen⟩, hnx⟩, hz⟩ := ho
      subst hlen
      refine lv_lstore hx rfl hd (xq_ll_has hl) (by rw [← hl.2.2.1]; exact Nat.blt_eq.mp hb) rfl (fun ls' hl' => ?_)
      exact xq_fin hle (xq_nrm_s _ _ hex) hR hS (xq_store2 hl hp (xq_rv_h hr) hl') (xq_rv_t hr) hn hnx rfl
    · exact hex.elim
  · exact hex.elim

set_option maxHeartbeats 1000000 in
theorem xq_s_iconst {Cq : Nat → List xq_V → Nat → xq_H → (Option xq_V → xq_H → Prop) → Prop} {Qx : Option xq_V → xq_H → Prop} {k : Int} (Cx : xq_Cx p R s m args meth c B D dA aI xs own ini rt rows nx0 nxE LV) (hle : ∀ pc L S nx h, K' pc L S nx h → xq_KW p l e R s m args below meth c B D dA aI xs rows nx0 Qf pc L S nx h)
    (hrow : xq_at rows pc = some (.iconst k, (rpc, len, nxt), ax, vs)) (hex : xq_exec Cq nxE Qx K' (some (.iconst k, (rpc, len, nxt), ax, vs)) L S nx h) : xq_KW p l e R s m args below meth c B D dA aI xs rows nx0 Qf pc L S nx h := by
  obtain ⟨hx, hown, hts, hKK, hIm, hok, hB, hRm, hini, hnE, hLV⟩ := Cx
  obtain ⟨ho, hpc⟩ := xq_row hok hrow
  simp only [xq_okb, xq_tm, xq_ts, xq_el, Bool.and_eq_true, Bool.or_eq_true, Bool.false_eq_true, false_or, decide_eq_true_eq, Nat.beq_eq] at ho
  intro H locs ls hR hS hl hr hn
  dsimp only at hpc
  rw [hpc]
  obtain ⟨⟨⟨hd, hlen⟩, hnx⟩, hz⟩ := ho
  subst hlen
  refine lv_iconst hx rfl hd rfl ?_
  exact xq_fin hle hex hR hS hl (xq_rv_c hz hr) hn hnx rfl

set_option maxHeartbeats 1000000 in
theorem xq_s_bipush {Cq : Nat → List xq_V → Nat → xq_H → (Option xq_V → xq_H → Prop) → Prop} {Qx : Option xq_V → xq_H → Prop} {k : Int} (Cx : xq_Cx p R s m args meth c B D dA aI xs own ini rt rows nx0 nxE LV) (hle : ∀ pc L S nx h, K' pc L S nx h → xq_KW p l e R s m args below meth c B D dA aI xs rows nx0 Qf pc L S nx h)
    (hrow : xq_at rows pc = some (.bipush k, (rpc, len, nxt), ax, vs)) (hex : xq_exec Cq nxE Qx K' (some (.bipush k, (rpc, len, nxt), ax, vs)) L S nx h) : xq_KW p l e R s m args below meth c B D dA aI xs rows nx0 Qf pc L S nx h := by
  obtain ⟨hx, hown, hts, hKK, hIm, hok, hB, hRm, hini, hnE, hLV⟩ := Cx
  obtain ⟨ho, hpc⟩ := xq_row hok hrow
  simp only [xq_okb, xq_tm, xq_ts, xq_el, Bool.and_eq_true, Bool.or_eq_true, Bool.false_eq_true, false_or, decide_eq_true_eq, Nat.beq_eq] at ho
  intro H locs ls hR hS hl hr hn
  dsimp only at hpc
  rw [hpc]
  obtain ⟨⟨⟨hd, hlen⟩, hnx⟩, hz⟩ := ho
  subst hlen
  refine lv_bipush hx rfl hd hz.1 ?_
  exact xq_fin hle hex hR hS hl (xq_rv_c hz.2 hr) hn hnx rfl

set_option maxHeartbeats 1000000 in
theorem xq_s_sipush {Cq : Nat → List xq_V → Nat → xq_H → (Option xq_V → xq_H → Prop) → Prop} {Qx : Option xq_V → xq_H → Prop} {k : Int} (Cx : xq_Cx p R s m args meth c B D dA aI xs own ini rt rows nx0 nxE LV) (hle : ∀ pc L S nx h, K' pc L S nx h → xq_KW p l e R s m args below meth c B D dA aI xs rows nx0 Qf pc L S nx h)
    (hrow : xq_at rows pc = some (.sipush k, (rpc, len, nxt), ax, vs)) (hex : xq_exec Cq nxE Qx K' (some (.sipush k, (rpc, len, nxt), ax, vs)) L S nx h) : xq_KW p l e R s m args below meth c B D dA aI xs rows nx0 Qf pc L S nx h := by
  obtain ⟨hx, hown, hts, hKK, hIm, hok, hB, hRm, hini, hnE, hLV⟩ := Cx
  obtain ⟨ho, hpc⟩ := xq_row hok hrow
  simp only [xq_okb, xq_tm, xq_ts, xq_el, Bool.and_eq_true, Bool.or_eq_true, Bool.false_eq_true, false_or, decide_eq_true_eq, Nat.beq_eq] at ho
  intro H locs ls hR hS hl hr hn
  dsimp only at hpc
  rw [hpc]
  obtain ⟨⟨⟨hd, hlen⟩, hnx⟩, hz⟩ := ho
  subst hlen
  refine lv_sipush hx rfl hd hz.1 ?_
  exact xq_fin hle hex hR hS hl (xq_rv_c hz.2 hr) hn hnx rfl

set_option maxHeartbeats 1000000 in
theorem xq_s_lconst {Cq : Nat → List xq_V → Nat → xq_H → (Option xq_V → xq_H → Prop) → Prop} {Qx : Option xq_V → xq_H → Prop} {k : Fin 2} (Cx : xq_Cx p R s m args meth c B D dA aI xs own ini rt rows nx0 nxE LV) (hle : ∀ pc L S nx h, K' pc L S nx h → xq_KW p l e R s m args below meth c B D dA aI xs rows nx0 Qf pc L S nx h)
    (hrow : xq_at rows pc = some (.lconst k, (rpc, len, nxt), ax, vs)) (hex : xq_exec Cq nxE Qx K' (some (.lconst k, (rpc, len, nxt), ax, vs)) L S nx h) : xq_KW p l e R s m args below meth c B D dA aI xs rows nx0 Qf pc L S nx h := by
  obtain ⟨hx, hown, hts, hKK, hIm, hok, hB, hRm, hini, hnE, hLV⟩ := Cx
  obtain ⟨ho, hpc⟩ := xq_row hok hrow
  simp only [xq_okb, xq_tm, xq_ts, xq_el, Bool.and_eq_true, Bool.or_eq_true, Bool.false_eq_true, false_or, decide_eq_true_eq, Nat.beq_eq] at ho
  intro H locs ls hR hS hl hr hn
  dsimp only at hpc
  rw [hpc]
  obtain ⟨⟨⟨hd, hlen⟩, hnx⟩, hz⟩ := ho
  subst hlen
  subst hz
  refine lv_lconst hx rfl hd (v := Int64.ofInt (k.val : Int)) ?_ ?_
  · rcases k with ⟨_ | _ | k, hk⟩
    · rfl
    · rfl
    · omega
  · exact xq_fin hle hex hR hS hl (xq_rv_c (by show _ ∧ _; omega) hr) hn hnx rfl

set_option maxHeartbeats 1000000 in
theorem xq_s_ldc_w {Cq : Nat → List xq_V → Nat → xq_H → (Option xq_V → xq_H → Prop) → Prop} {Qx : Option xq_V → xq_H → Prop} {k : Nat} (Cx : xq_Cx p R s m args meth c B D dA aI xs own ini rt rows nx0 nxE LV) (hle : ∀ pc L S nx h, K' pc L S nx h → xq_KW p l e R s m args below meth c B D dA aI xs rows nx0 Qf pc L S nx h)
    (hrow : xq_at rows pc = some (.ldc_w k, (rpc, len, nxt), ax, vs)) (hex : xq_exec Cq nxE Qx K' (some (.ldc_w k, (rpc, len, nxt), ax, vs)) L S nx h) : xq_KW p l e R s m args below meth c B D dA aI xs rows nx0 Qf pc L S nx h := by
  obtain ⟨hx, hown, hts, hKK, hIm, hok, hB, hRm, hini, hnE, hLV⟩ := Cx
  obtain ⟨ho, hpc⟩ := xq_row hok hrow
  simp only [xq_okb, xq_tm, xq_ts, xq_el, Bool.and_eq_true, Bool.or_eq_true, Bool.false_eq_true, false_or, decide_eq_true_eq, Nat.beq_eq] at ho
  intro H locs ls hR hS hl hr hn
  dsimp only at hpc
  rw [hpc]
  rcases vs with _ | ⟨v, _ | ⟨v2, vs⟩⟩ <;> try exact False.elim hex
  rcases ax with _ | ⟨a1, _ | ⟨a2, _ | ⟨a3, ax⟩⟩⟩ <;> try (simp at ho; done)
  rcases a1 with _ | a1
  · simp only [Bool.and_eq_true, decide_eq_true_eq] at ho
    obtain ⟨⟨⟨hd, hlen⟩, hnx⟩, hz, hv⟩ := ho
    subst hlen
    refine lv_ldcw hx rfl hown (hts _ (xq_wd_in hz)) hd ?_
    exact xq_fin hle hex hR hS hl (xq_rv_c hv hr) hn hnx rfl
  · simp at ho

set_option maxHeartbeats 1000000 in
theorem xq_s_ldc2_w {Cq : Nat → List xq_V → Nat → xq_H → (Option xq_V → xq_H → Prop) → Prop} {Qx : Option xq_V → xq_H → Prop} {k : Nat} (Cx : xq_Cx p R s m args meth c B D dA aI xs own ini rt rows nx0 nxE LV) (hle : ∀ pc L S nx h, K' pc L S nx h → xq_KW p l e R s m args below meth c B D dA aI xs rows nx0 Qf pc L S nx h)
    (hrow : xq_at rows pc = some (.ldc2_w k, (rpc, len, nxt), ax, vs)) (hex : xq_exec Cq nxE Qx K' (some (.ldc2_w k, (rpc, len, nxt), ax, vs)) L S nx h) : xq_KW p l e R s m args below meth c B D dA aI xs rows nx0 Qf pc L S nx h := by
  obtain ⟨hx, hown, hts, hKK, hIm, hok, hB, hRm, hini, hnE, hLV⟩ := Cx
  obtain ⟨ho, hpc⟩ := xq_row hok hrow
  simp only [xq_okb, xq_tm, xq_ts, xq_el, Bool.and_eq_true, Bool.or_eq_true, Bool.false_eq_true, false_or, decide_eq_true_eq, Nat.beq_eq] at ho
  intro H locs ls hR hS hl hr hn
  dsimp only at hpc
  rw [hpc]
  rcases vs with _ | ⟨v, _ | ⟨v2, vs⟩⟩ <;> try exact False.elim hex
  rcases ax with _ | ⟨a1, _ | ⟨a2, ax⟩⟩ <;> try (simp at ho; done)
  simp only [Bool.and_eq_true, decide_eq_true_eq] at ho
  obtain ⟨⟨⟨hd, hlen⟩, hnx⟩, hz, hv⟩ := ho
  subst hlen
  refine lv_ldc2 hx rfl hown (hts _ (xq_wd_in hz)) hd ?_
  exact xq_fin hle hex hR hS hl (xq_rv_c hv hr) hn hnx rfl

set_option maxHeartbeats 1000000 in
theorem xq_s_ldc {Cq : Nat → List xq_V → Nat → xq_H → (Option xq_V → xq_H → Prop) → Prop} {Qx : Option xq_V → xq_H → Prop} {k : Nat} (Cx : xq_Cx p R s m args meth c B D dA aI xs own ini rt rows nx0 nxE LV) (hle : ∀ pc L S nx h, K' pc L S nx h → xq_KW p l e R s m args below meth c B D dA aI xs rows nx0 Qf pc L S nx h)
    (hrow : xq_at rows pc = some (.ldc k, (rpc, len, nxt), ax, vs)) (hex : xq_exec Cq nxE Qx K' (some (.ldc k, (rpc, len, nxt), ax, vs)) L S nx h) : xq_KW p l e R s m args below meth c B D dA aI xs rows nx0 Qf pc L S nx h := by
  obtain ⟨hx, hown, hts, hKK, hIm, hok, hB, hRm, hini, hnE, hLV⟩ := Cx
  obtain ⟨ho, hpc⟩ := xq_row hok hrow
  simp only [xq_okb, xq_tm, xq_ts, xq_el, Bool.and_eq_true, Bool.or_eq_true, Bool.false_eq_true, false_or, decide_eq_true_eq, Nat.beq_eq] at ho
  intro H locs ls hR hS hl hr hn
  dsimp only at hpc
  rw [hpc]
  unfold xq_exec at hex
  dsimp only at hex
  split at hex
  · rename_i w v
    simp only [Bool.and_eq_true, decide_eq_true_eq] at ho
    obtain ⟨⟨⟨hd, hlen⟩, hnx⟩, hz, hv⟩ := ho
    subst hlen
    refine lv_ldc hx rfl hown (hts _ (xq_wd_in hz)) hd ?_
    exact xq_fin hle hex hR hS hl (xq_rv_c hv hr) hn hnx rfl
  · rename_i a2 a3
    rcases vs with _ | ⟨v, vs⟩
    · simp only [decide_eq_true_eq] at ho
      obtain ⟨⟨⟨hd, hlen⟩, hnx⟩, hz1, hz2, hz3⟩ := ho
      subst hlen
      obtain ⟨q, hq, hq2⟩ := Option.map_eq_some_iff.mp hz1
      rw [hq] at hz2
      obtain ⟨q1, q2, q3⟩ := q
      cases hq2
      refine va_ldcS hx rfl hown (hIm.2.1 a3 _ _ q3 a2 hq hz2.symm) hd ?_
      refine xq_fin hle hex hR hS hl (xq_rv_c trivial hr) hn hnx ?_
      show Value.ref (xq_ad B aI (1100 + a2)) :: _ = _
      rw [xq_ad, if_neg (by omega)]
    · simp at ho
  · exact hex.elim

set_option maxHeartbeats 1000000 in
theorem xq_s_iadd {Cq : Nat → List xq_V → Nat → xq_H → (Option xq_V → xq_H → Prop) → Prop} {Qx : Option xq_V → xq_H → Prop} (Cx : xq_Cx p R s m args meth c B D dA aI xs own ini rt rows nx0 nxE LV) (hle : ∀ pc L S nx h, K' pc L S nx h → xq_KW p l e R s m args below meth c B D dA aI xs rows nx0 Qf pc L S nx h)
    (hrow : xq_at rows pc = some (.iadd, (rpc, len, nxt), ax, vs)) (hex : xq_exec Cq nxE Qx K' (some (.iadd, (rpc, len, nxt), ax, vs)) L S nx h) : xq_KW p l e R s m args below meth c B D dA aI xs rows nx0 Qf pc L S nx h := by
  obtain ⟨hx, hown, hts, hKK, hIm, hok, hB, hRm, hini, hnE, hLV⟩ := Cx
  obtain ⟨ho, hpc⟩ := xq_row hok hrow
  simp only [xq_okb, xq_tm, xq_ts, xq_el, Bool.and_eq_true, Bool.or_eq_true, Bool.false_eq_true, false_or, decide_eq_true_eq, Nat.beq_eq] at ho
  intro H locs ls hR hS hl hr hn
  dsimp only at hpc
  rw [hpc]
  rcases ax with _ | ⟨md, _ | ⟨a2, ax⟩⟩ <;> try exact False.elim hex
  rcases S with _ | ⟨(b | b | b), _ | ⟨(a | a | a), S'⟩⟩ <;> try exact False.elim hex
  obtain ⟨⟨⟨hd, hlen⟩, hnx⟩, hz⟩ := ho
  subst hlen
  have hb : -2147483648 ≤ b ∧ b ≤ 2147483647 := xq_rv_h hr
  have ha : -2147483648 ≤ a ∧ a ≤ 2147483647 := xq_rv_h (xq_rv_t hr)
  refine lv_iadd hx rfl hd ?_
  have hex' := xq_ari_of (K := fun x => K' nxt L (xI x :: S') nx h) (md := md) (x := a + b) hex (Int32.ofInt a + Int32.ofInt b) (by rw [Int32.toInt_add, xi_of ha, xi_of hb])
  exact xq_fin hle hex' hR hS hl (xq_rv_c (xi_rg _) (xq_rv_t (xq_rv_t hr))) hn hnx (by rw [List.map_cons, xq_cvI])

set_option maxHeartbeats 1000000 in
theorem xq_s_isub {Cq : Nat → List xq_V → Nat → xq_H → (Option xq_V → xq_H → Prop) → Prop} {Qx : Option xq_V → xq_H → Prop} (Cx : xq_Cx p R s m args meth c B D dA aI xs own ini rt rows nx0 nxE LV) (hle : ∀ pc L S nx h, K' pc L S nx h → xq_KW p l e R s m args below meth c B D dA aI xs rows nx0 Qf pc L S nx h)
    (hrow : xq_at rows pc = some (.isub, (rpc, len, nxt), ax, vs)) (hex : xq_exec Cq nxE Qx K' (some (.isub, (rpc, len, nxt), ax, vs)) L S nx h) : xq_KW p l e R s m args below meth c B D dA aI xs rows nx0 Qf pc L S nx h := by
  obtain ⟨hx, hown, hts, hKK, hIm, hok, hB, hRm, hini, hnE, hLV⟩ := Cx
  obtain ⟨ho, hpc⟩ := xq_row hok hrow
  simp only [xq_okb, xq_tm, xq_ts, xq_el, Bool.and_eq_true, Bool.or_eq_true, Bool.false_eq_true, false_or, decide_eq_true_eq, Nat.beq_eq] at ho
  intro H locs ls hR hS hl hr hn
  dsimp only at hpc
  rw [hpc]
  rcases ax with _ | ⟨md, _ | ⟨a2, ax⟩⟩ <;> try exact False.elim hex
  rcases S with _ | ⟨(b | b | b), _ | ⟨(a | a | a), S'⟩⟩ <;> try exact False.elim hex
  obtain ⟨⟨⟨hd, hlen⟩, hnx⟩, hz⟩ := ho
  subst hlen
  have hb : -2147483648 ≤ b ∧ b ≤ 2147483647 := xq_rv_h hr
  have ha : -2147483648 ≤ a ∧ a ≤ 2147483647 := xq_rv_h (xq_rv_t hr)
  refine lv_isub hx rfl hd ?_
  have hex' := xq_ari_of (K := fun x => K' nxt L (xI x :: S') nx h) (md := md) (x := a - b) hex (Int32.ofInt a - Int32.ofInt b) (by rw [Int32.toInt_sub, xi_of ha, xi_of hb])
  exact xq_fin hle hex' hR hS hl (xq_rv_c (xi_rg _) (xq_rv_t (xq_rv_t hr))) hn hnx (by rw [List.map_cons, xq_cvI])

set_option maxHeartbeats 1000000 in
theorem xq_s_imul {Cq : Nat → List xq_V → Nat → xq_H → (Option xq_V → xq_H → Prop) → Prop} {Qx : Option xq_V → xq_H → Prop} (Cx : xq_Cx p R s m args meth c B D dA aI xs own ini rt rows nx0 nxE LV) (hle : ∀ pc L S nx h, K' pc L S nx h → xq_KW p l e R s m args below meth c B D dA aI xs rows nx0 Qf pc L S nx h)
    (hrow : xq_at rows pc = some (.imul, (rpc, len, nxt), ax, vs)) (hex : xq_exec Cq nxE Qx K' (some (.imul, (rpc, len, nxt), ax, vs)) L S nx h) : xq_KW p l e R s m args below meth c B D dA aI xs rows nx0 Qf pc L S nx h := by
  obtain ⟨hx, hown, hts, hKK, hIm, hok, hB, hRm, hini, hnE, hLV⟩ := Cx
  obtain ⟨ho, hpc⟩ := xq_row hok hrow
  simp only [xq_okb, xq_tm, xq_ts, xq_el, Bool.and_eq_true, Bool.or_eq_true, Bool.false_eq_true, false_or, decide_eq_true_eq, Nat.beq_eq] at ho
  intro H locs ls hR hS hl hr hn
  dsimp only at hpc
  rw [hpc]
  rcases ax with _ | ⟨md, _ | ⟨a2, ax⟩⟩ <;> try exact False.elim hex
  rcases S with _ | ⟨(b | b | b), _ | ⟨(a | a | a), S'⟩⟩ <;> try exact False.elim hex
  obtain ⟨⟨⟨hd, hlen⟩, hnx⟩, hz⟩ := ho
  subst hlen
  have hb : -2147483648 ≤ b ∧ b ≤ 2147483647 := xq_rv_h hr
  have ha : -2147483648 ≤ a ∧ a ≤ 2147483647 := xq_rv_h (xq_rv_t hr)
  refine lv_imul hx rfl hd ?_
  have hex' := xq_ari_of (K := fun x => K' nxt L (xI x :: S') nx h) (md := md) (x := a * b) hex (Int32.ofInt a * Int32.ofInt b) (by rw [Int32.toInt_mul, xi_of ha, xi_of hb])
  exact xq_fin hle hex' hR hS hl (xq_rv_c (xi_rg _) (xq_rv_t (xq_rv_t hr))) hn hnx (by rw [List.map_cons, xq_cvI])

set_option maxHeartbeats 1000000 in
theorem xq_s_ineg {Cq : Nat → List xq_V → Nat → xq_H → (Option xq_V → xq_H → Prop) → Prop} {Qx : Option xq_V → xq_H → Prop} (Cx : xq_Cx p R s m args meth c B D dA aI xs own ini rt rows nx0 nxE LV) (hle : ∀ pc L S nx h, K' pc L S nx h → xq_KW p l e R s m args below meth c B D dA aI xs rows nx0 Qf pc L S nx h)
    (hrow : xq_at rows pc = some (.ineg, (rpc, len, nxt), ax, vs)) (hex : xq_exec Cq nxE Qx K' (some (.ineg, (rpc, len, nxt), ax, vs)) L S nx h) : xq_KW p l e R s m args below meth c B D dA aI xs rows nx0 Qf pc L S nx h := by
  obtain ⟨hx, hown, hts, hKK, hIm, hok, hB, hRm, hini, hnE, hLV⟩ := Cx
  obtain ⟨ho, hpc⟩ := xq_row hok hrow
  simp only [xq_okb, xq_tm, xq_ts, xq_el, Bool.and_eq_true, Bool.or_eq_true, Bool.false_eq_true, false_or, decide_eq_true_eq, Nat.beq_eq] at ho
  intro H locs ls hR hS hl hr hn
  dsimp only at hpc
  rw [hpc]
  rcases ax with _ | ⟨md, _ | ⟨a2, ax⟩⟩ <;> try exact False.elim hex
  rcases S with _ | ⟨(a | a | a), S'⟩ <;> try exact False.elim hex
  obtain ⟨⟨⟨hd, hlen⟩, hnx⟩, hz⟩ := ho
  subst hlen
  have ha : -2147483648 ≤ a ∧ a ≤ 2147483647 := xq_rv_h hr
  refine lv_ineg hx rfl hd ?_
  have hex' := xq_ari_of (K := fun x => K' nxt L (xI x :: S') nx h) (md := md) (x := -a) hex (-Int32.ofInt a) (by rw [Int32.toInt_neg, xi_of ha])
  exact xq_fin hle hex' hR hS hl (xq_rv_c (xi_rg _) (xq_rv_t hr)) hn hnx (by rw [List.map_cons, xq_cvI])

set_option maxHeartbeats 1000000 in
theorem xq_s_idiv {Cq : Nat → List xq_V → Nat → xq_H → (Option xq_V → xq_H → Prop) → Prop} {Qx : Option xq_V → xq_H → Prop} (Cx : xq_Cx p R s m args meth c B D dA aI xs own ini rt rows nx0 nxE LV) (hle : ∀ pc L S nx h, K' pc L S nx h → xq_KW p l e R s m args below meth c B D dA aI xs rows nx0 Qf pc L S nx h)
    (hrow : xq_at rows pc = some (.idiv, (rpc, len, nxt), ax, vs)) (hex : xq_exec Cq nxE Qx K' (some (.idiv, (rpc, len, nxt), ax, vs)) L S nx h) : xq_KW p l e R s m args below meth c B D dA aI xs rows nx0 Qf pc L S nx h := by
  obtain ⟨hx, hown, hts, hKK, hIm, hok, hB, hRm, hini, hnE, hLV⟩ := Cx
  obtain ⟨ho, hpc⟩ := xq_row hok hrow
  simp only [xq_okb, xq_tm, xq_ts, xq_el, Bool.and_eq_true, Bool.or_eq_true, Bool.false_eq_true, false_or, decide_eq_true_eq, Nat.beq_eq] at ho
  intro H locs ls hR hS hl hr hn
  dsimp only at hpc
  rw [hpc]
  rcases S with _ | ⟨(b | b | b), _ | ⟨(a | a | a), S'⟩⟩ <;> try exact False.elim hex
  obtain ⟨⟨⟨hd, hlen⟩, hnx⟩, hz⟩ := ho
  subst hlen
  have hb : -2147483648 ≤ b ∧ b ≤ 2147483647 := xq_rv_h hr
  have ha : -2147483648 ≤ a ∧ a ≤ 2147483647 := xq_rv_h (xq_rv_t hr)
  obtain ⟨h0, hex⟩ := hex
  refine lv_idiv hx rfl hd (xq_ne0 h0.2 hb.2) ?_
  rw [← xq_div h0 ha.2 hb.2] at hex
  exact xq_fin hle hex hR hS hl (xq_rv_c (xi_rg _) (xq_rv_t (xq_rv_t hr))) hn hnx (by rw [List.map_cons, xq_cvI])

set_option maxHeartbeats 1000000 in
theorem xq_s_irem {Cq : Nat → List xq_V → Nat → xq_H → (Option xq_V → xq_H → Prop) → Prop} {Qx : Option xq_V → xq_H → Prop} (Cx : xq_Cx p R s m args meth c B D dA aI xs own ini rt rows nx0 nxE LV) (hle : ∀ pc L S nx h, K' pc L S nx h → xq_KW p l e R s m args below meth c B D dA aI xs rows nx0 Qf pc L S nx h)
    (hrow : xq_at rows pc = some (.irem, (rpc, len, nxt), ax, vs)) (hex : xq_exec Cq nxE Qx K' (some (.irem, (rpc, len, nxt), ax, vs)) L S nx h) : xq_KW p l e R s m args below meth c B D dA aI xs rows nx0 Qf pc L S nx h := by
  obtain ⟨hx, hown, hts, hKK, hIm, hok, hB, hRm, hini, hnE, hLV⟩ := Cx
  obtain ⟨ho, hpc⟩ := xq_row hok hrow
  simp only [xq_okb, xq_tm, xq_ts, xq_el, Bool.and_eq_true, Bool.or_eq_true, Bool.false_eq_true, false_or, decide_eq_true_eq, Nat.beq_eq] at ho
  intro H locs ls hR hS hl hr hn
  dsimp only at hpc
  rw [hpc]
  rcases S with _ | ⟨(b | b | b), _ | ⟨(a | a | a), S'⟩⟩ <;> try exact False.elim hex
  obtain ⟨⟨⟨hd, hlen⟩, hnx⟩, hz⟩ := ho
  subst hlen
  have hb : -2147483648 ≤ b ∧ b ≤ 2147483647 := xq_rv_h hr
  have ha : -2147483648 ≤ a ∧ a ≤ 2147483647 := xq_rv_h (xq_rv_t hr)
  obtain ⟨h0, hex⟩ := hex
  refine lv_irem hx rfl hd (xq_ne0 h0.2 hb.2) ?_
  rw [← xq_rem h0 ha.2 hb.2] at hex
  exact xq_fin hle hex hR hS hl (xq_rv_c (xi_rg _) (xq_rv_t (xq_rv_t hr))) hn hnx (by rw [List.map_cons, xq_cvI])

set_option maxHeartbeats 1000000 in
theorem xq_s_ldiv {Cq : Nat → List xq_V → Nat → xq_H → (Option xq_V → xq_H → Prop) → Prop} {Qx : Option xq_V → xq_H → Prop} (Cx : xq_Cx p R s m args meth c B D dA aI xs own ini rt rows nx0 nxE LV) (hle : ∀ pc L S nx h, K' pc L S nx h → xq_KW p l e R s m args below meth c B D dA aI xs rows nx0 Qf pc L S nx h)
    (hrow : xq_at rows pc = some (.ldiv, (rpc, len, nxt), ax, vs)) (hex : xq_exec Cq nxE Qx K' (some (.ldiv, (rpc, len, nxt), ax, vs)) L S nx h) : xq_KW p l e R s m args below meth c B D dA aI xs rows nx0 Qf pc L S nx h := by
  obtain ⟨hx, hown, hts, hKK, hIm, hok, hB, hRm, hini, hnE, hLV⟩ := Cx
  obtain ⟨ho, hpc⟩ := xq_row hok hrow
  simp only [xq_okb, xq_tm, xq_ts, xq_el, Bool.and_eq_true, Bool.or_eq_true, Bool.false_eq_true, false_or, decide_eq_true_eq, Nat.beq_eq] at ho
  intro H locs ls hR hS hl hr hn
  dsimp only at hpc
  rw [hpc]
  rcases S with _ | ⟨(b | b | b), _ | ⟨(a | a | a), S'⟩⟩ <;> try exact False.elim hex
  obtain ⟨⟨⟨hd, hlen⟩, hnx⟩, hz⟩ := ho
  subst hlen
  have hb : -9223372036854775808 ≤ b ∧ b ≤ 9223372036854775807 := xq_rv_h hr
  have ha : -9223372036854775808 ≤ a ∧ a ≤ 9223372036854775807 := xq_rv_h (xq_rv_t hr)
  obtain ⟨h0, hex⟩ := hex
  refine lv_ldiv hx rfl hd (xq_ne0L h0.2 hb.2) ?_
  rw [← xq_divL h0 ha.2 hb.2] at hex
  exact xq_fin hle hex hR hS hl (xq_rv_c (xj_rg _) (xq_rv_t (xq_rv_t hr))) hn hnx (by rw [List.map_cons, xq_cvJ])

set_option maxHeartbeats 1000000 in
theorem xq_s_lrem {Cq : Nat → List xq_V → Nat → xq_H → (Option xq_V → xq_H → Prop) → Prop} {Qx : Option xq_V → xq_H → Prop} (Cx : xq_Cx p R s m args meth c B D dA aI xs own ini rt rows nx0 nxE LV) (hle : ∀ pc L S nx h, K' pc L S nx h → xq_KW p l e R s m args below meth c B D dA aI xs rows nx0 Qf pc L S nx h)
    (hrow : xq_at rows pc = some (.lrem, (rpc, len, nxt), ax, vs)) (hex : xq_exec Cq nxE Qx K' (some (.lrem, (rpc, len, nxt), ax, vs)) L S nx h) : xq_KW p l e R s m args below meth c B D dA aI xs rows nx0 Qf pc L S nx h := by
  obtain ⟨hx, hown, hts, hKK, hIm, hok, hB, hRm, hini, hnE, hLV⟩ := Cx
  obtain ⟨ho, hpc⟩ := xq_row hok hrow
  simp only [xq_okb, xq_tm, xq_ts, xq_el, Bool.and_eq_true, Bool.or_eq_true, Bool.false_eq_true, false_or, decide_eq_true_eq, Nat.beq_eq] at ho
  intro H locs ls hR hS hl hr hn
  dsimp only at hpc
  rw [hpc]
  rcases S with _ | ⟨(b | b | b), _ | ⟨(a | a | a), S'⟩⟩ <;> try exact False.elim hex
  obtain ⟨⟨⟨hd, hlen⟩, hnx⟩, hz⟩ := ho
  subst hlen
  have hb : -9223372036854775808 ≤ b ∧ b ≤ 9223372036854775807 := xq_rv_h hr
  have ha : -9223372036854775808 ≤ a ∧ a ≤ 9223372036854775807 := xq_rv_h (xq_rv_t hr)
  obtain ⟨h0, hex⟩ := hex
  refine lv_lrem hx rfl hd (xq_ne0L h0.2 hb.2) ?_
  rw [← xq_remL h0 ha.2 hb.2] at hex
  exact xq_fin hle hex hR hS hl (xq_rv_c (xj_rg _) (xq_rv_t (xq_rv_t hr))) hn hnx (by rw [List.map_cons, xq_cvJ])

set_option maxHeartbeats 1000000 in
theorem xq_s_lcmp {Cq : Nat → List xq_V → Nat → xq_H → (Option xq_V → xq_H → Prop) → Prop} {Qx : Option xq_V → xq_H → Prop} (Cx : xq_Cx p R s m args meth c B D dA aI xs own ini rt rows nx0 nxE LV) (hle : ∀ pc L S nx h, K' pc L S nx h → xq_KW p l e R s m args below meth c B D dA aI xs rows nx0 Qf pc L S nx h)
    (hrow : xq_at rows pc = some (.lcmp, (rpc, len, nxt), ax, vs)) (hex : xq_exec Cq nxE Qx K' (some (.lcmp, (rpc, len, nxt), ax, vs)) L S nx h) : xq_KW p l e R s m args below meth c B D dA aI xs rows nx0 Qf pc L S nx h := by
  obtain ⟨hx, hown, hts, hKK, hIm, hok, hB, hRm, hini, hnE, hLV⟩ := Cx
  obtain ⟨ho, hpc⟩ := xq_row hok hrow
  simp only [xq_okb, xq_tm, xq_ts, xq_el, Bool.and_eq_true, Bool.or_eq_true, Bool.false_eq_true, false_or, decide_eq_true_eq, Nat.beq_eq] at ho
  intro H locs ls hR hS hl hr hn
  dsimp only at hpc
  rw [hpc]
  rcases S with _ | ⟨(b | b | b), _ | ⟨(a | a | a), S'⟩⟩ <;> try exact False.elim hex
  obtain ⟨⟨⟨hd, hlen⟩, hnx⟩, hz⟩ := ho
  subst hlen
  have hb : -9223372036854775808 ≤ b ∧ b ≤ 9223372036854775807 := xq_rv_h hr
  have ha : -9223372036854775808 ≤ a ∧ a ≤ 9223372036854775807 := xq_rv_h (xq_rv_t hr)
  refine W.lcmp hx rfl hd ?_
  have hex' : K' nxt L (xI (lg_cmp (Int64.ofInt a) (Int64.ofInt b)).toInt :: S') nx h := by
    rw [xq_lcmp ha hb]; exact hex
  exact xq_fin hle hex' hR hS hl (xq_rv_c (xi_rg _) (xq_rv_t (xq_rv_t hr))) hn hnx (by rw [List.map_cons, xq_cvI])

set_option maxHeartbeats 1000000 in
theorem xq_s_ishl {Cq : Nat → List xq_V → Nat → xq_H → (Option xq_V → xq_H → Prop) → Prop} {Qx : Option xq_V → xq_H → Prop} (Cx : xq_Cx p R s m args meth c B D dA aI xs own ini rt rows nx0 nxE LV) (hle : ∀ pc L S nx h, K' pc L S nx h → xq_KW p l e R s m args below meth c B D dA aI xs rows nx0 Qf pc L S nx h)
    (hrow : xq_at rows pc = some (.ishl, (rpc, len, nxt), ax, vs)) (hex : xq_exec Cq nxE Qx K' (some (.ishl, (rpc, len, nxt), ax, vs)) L S nx h) : xq_KW p l e R s m args below meth c B D dA aI xs rows nx0 Qf pc L S nx h := by
  obtain ⟨hx, hown, hts, hKK, hIm, hok, hB, hRm, hini, hnE, hLV⟩ := Cx
  obtain ⟨ho, hpc⟩ := xq_row hok hrow
  simp only [xq_okb, xq_tm, xq_ts, xq_el, Bool.and_eq_true, Bool.or_eq_true, Bool.false_eq_true, false_or, decide_eq_true_eq, Nat.beq_eq] at ho
  intro H locs ls hR hS hl hr hn
  dsimp only at hpc
  rw [hpc]
  rcases S with _ | ⟨(b | b | b), _ | ⟨(a | a | a), S'⟩⟩ <;> try exact False.elim hex
  obtain ⟨⟨⟨hd, hlen⟩, hnx⟩, hz⟩ := ho
  subst hlen
  refine lv_ishl hx rfl hd ?_
  exact xq_fin hle hex hR hS hl (xq_rv_c (xi_rg _) (xq_rv_t (xq_rv_t hr))) hn hnx (by rw [List.map_cons, xq_shl, xq_cvI])

set_option maxHeartbeats 1000000 in
theorem xq_s_ishr {Cq : Nat → List xq_V → Nat → xq_H → (Option xq_V → xq_H → Prop) → Prop} {Qx : Option xq_V → xq_H → Prop} (Cx : xq_Cx p R s m args meth c B D dA aI xs own ini rt rows nx0 nxE LV) (hle : ∀ pc L S nx h, K' pc L S nx h → xq_KW p l e R s m args below meth c B D dA aI xs rows nx0 Qf pc L S nx h)
    (hrow : xq_at rows pc = some (.ishr, (rpc, len, nxt), ax, vs)) (hex : xq_exec Cq nxE Qx K' (some (.ishr, (rpc, len, nxt), ax, vs)) L S nx h) : xq_KW p l e R s m args below meth c B D dA aI xs rows nx0 Qf pc L S nx h := by
  obtain ⟨hx, hown, hts, hKK, hIm, hok, hB, hRm, hini, hnE, hLV⟩ := Cx
  obtain ⟨ho, hpc⟩ := xq_row hok hrow
  simp only [xq_okb, xq_tm, xq_ts, xq_el, Bool.and_eq_true, Bool.or_eq_true, Bool.false_eq_true, false_or, decide_eq_true_eq, Nat.beq_eq] at ho
  intro H locs ls hR hS hl hr hn
  dsimp only at hpc
  rw [hpc]
  rcases S with _ | ⟨(b | b | b), _ | ⟨(a | a | a), S'⟩⟩ <;> try exact False.elim hex
  obtain ⟨⟨⟨hd, hlen⟩, hnx⟩, hz⟩ := ho
  subst hlen
  refine lv_ishr hx rfl hd ?_
  exact xq_fin hle hex hR hS hl (xq_rv_c (xi_rg _) (xq_rv_t (xq_rv_t hr))) hn hnx (by rw [List.map_cons, xq_shr, xq_cvI])

set_option maxHeartbeats 1000000 in
theorem xq_s_iand {Cq : Nat → List xq_V → Nat → xq_H → (Option xq_V → xq_H → Prop) → Prop} {Qx : Option xq_V → xq_H → Prop} (Cx : xq_Cx p R s m args meth c B D dA aI xs own ini rt rows nx0 nxE LV) (hle : ∀ pc L S nx h, K' pc L S nx h → xq_KW p l e R s m args below meth c B D dA aI xs rows nx0 Qf pc L S nx h)
    (hrow : xq_at rows pc = some (.iand, (rpc, len, nxt), ax, vs)) (hex : xq_exec Cq nxE Qx K' (some (.iand, (rpc, len, nxt), ax, vs)) L S nx h) : xq_KW p l e R s m args below meth c B D dA aI xs rows nx0 Qf pc L S nx h := by
  obtain ⟨hx, hown, hts, hKK, hIm, hok, hB, hRm, hini, hnE, hLV⟩ := Cx
  obtain ⟨ho, hpc⟩ := xq_row hok hrow
  simp only [xq_okb, xq_tm, xq_ts, xq_el, Bool.and_eq_true, Bool.or_eq_true, Bool.false_eq_true, false_or, decide_eq_true_eq, Nat.beq_eq] at ho
  intro H locs ls hR hS hl hr hn
  dsimp only at hpc
  rw [hpc]
  rcases S with _ | ⟨(b | b | b), _ | ⟨(a | a | a), S'⟩⟩ <;> try exact False.elim hex
  obtain ⟨⟨⟨hd, hlen⟩, hnx⟩, hz⟩ := ho
  subst hlen
  refine lv_iand hx rfl hd ?_
  exact xq_fin hle hex hR hS hl (xq_rv_c (xi_rg _) (xq_rv_t (xq_rv_t hr))) hn hnx (by rw [List.map_cons, xq_and, xq_cvI])

set_option maxHeartbeats 1000000 in
theorem xq_s_ior {Cq : Nat → List xq_V → Nat → xq_H → (Option xq_V → xq_H → Prop) → Prop} {Qx : Option xq_V → xq_H → Prop} (Cx : xq_Cx p R s m args meth c B D dA aI xs own ini rt rows nx0 nxE LV) (hle : ∀ pc L S nx h, K' pc L S nx h → xq_KW p l e R s m args below meth c B D dA aI xs rows nx0 Qf pc L S nx h)
    (hrow : xq_at rows pc = some (.ior, (rpc, len, nxt), ax, vs)) (hex : xq_exec Cq nxE Qx K' (some (.ior, (rpc, len, nxt), ax, vs)) L S nx h) : xq_KW p l e R s m args below meth c B D dA aI xs rows nx0 Qf pc L S nx h := by
  obtain ⟨hx, hown, hts, hKK, hIm, hok, hB, hRm, hini, hnE, hLV⟩ := Cx
  obtain ⟨ho, hpc⟩ := xq_row hok hrow
  simp only [xq_okb, xq_tm, xq_ts, xq_el, Bool.and_eq_true, Bool.or_eq_true, Bool.false_eq_true, false_or, decide_eq_true_eq, Nat.beq_eq] at ho
  intro H locs ls hR hS hl hr hn
  dsimp only at hpc
  rw [hpc]
  rcases S with _ | ⟨(b | b | b), _ | ⟨(a | a | a), S'⟩⟩ <;> try exact False.elim hex
  obtain ⟨⟨⟨hd, hlen⟩, hnx⟩, hz⟩ := ho
  subst hlen
  refine lv_ior hx rfl hd ?_
  exact xq_fin hle hex hR hS hl (xq_rv_c (xi_rg _) (xq_rv_t (xq_rv_t hr))) hn hnx (by rw [List.map_cons, xq_or, xq_cvI])

set_option maxHeartbeats 1000000 in
theorem xq_s_ixor {Cq : Nat → List xq_V → Nat → xq_H → (Option xq_V → xq_H → Prop) → Prop} {Qx : Option xq_V → xq_H → Prop} (Cx : xq_Cx p R s m args meth c B D dA aI xs own ini rt rows nx0 nxE LV) (hle : ∀ pc L S nx h, K' pc L S nx h → xq_KW p l e R s m args below meth c B D dA aI xs rows nx0 Qf pc L S nx h)
    (hrow : xq_at rows pc = some (.ixor, (rpc, len, nxt), ax, vs)) (hex : xq_exec Cq nxE Qx K' (some (.ixor, (rpc, len, nxt), ax, vs)) L S nx h) : xq_KW p l e R s m args below meth c B D dA aI xs rows nx0 Qf pc L S nx h := by
  obtain ⟨hx, hown, hts, hKK, hIm, hok, hB, hRm, hini, hnE, hLV⟩ := Cx
  obtain ⟨ho, hpc⟩ := xq_row hok hrow
  simp only [xq_okb, xq_tm, xq_ts, xq_el, Bool.and_eq_true, Bool.or_eq_true, Bool.false_eq_true, false_or, decide_eq_true_eq, Nat.beq_eq] at ho
  intro H locs ls hR hS hl hr hn
  dsimp only at hpc
  rw [hpc]
  rcases S with _ | ⟨(b | b | b), _ | ⟨(a | a | a), S'⟩⟩ <;> try exact False.elim hex
  obtain ⟨⟨⟨hd, hlen⟩, hnx⟩, hz⟩ := ho
  subst hlen
  refine lv_ixor hx rfl hd ?_
  exact xq_fin hle hex hR hS hl (xq_rv_c (xi_rg _) (xq_rv_t (xq_rv_t hr))) hn hnx (by rw [List.map_cons, xq_xor, xq_cvI])

set_option maxHeartbeats 1000000 in
theorem xq_s_iushr {Cq : Nat → List xq_V → Nat → xq_H → (Option xq_V → xq_H → Prop) → Prop} {Qx : Option xq_V → xq_H → Prop} (Cx : xq_Cx p R s m args meth c B D dA aI xs own ini rt rows nx0 nxE LV) (hle : ∀ pc L S nx h, K' pc L S nx h → xq_KW p l e R s m args below meth c B D dA aI xs rows nx0 Qf pc L S nx h)
    (hrow : xq_at rows pc = some (.iushr, (rpc, len, nxt), ax, vs)) (hex : xq_exec Cq nxE Qx K' (some (.iushr, (rpc, len, nxt), ax, vs)) L S nx h) : xq_KW p l e R s m args below meth c B D dA aI xs rows nx0 Qf pc L S nx h := by
  obtain ⟨hx, hown, hts, hKK, hIm, hok, hB, hRm, hini, hnE, hLV⟩ := Cx
  obtain ⟨ho, hpc⟩ := xq_row hok hrow
  simp only [xq_okb, xq_tm, xq_ts, xq_el, Bool.and_eq_true, Bool.or_eq_true, Bool.false_eq_true, false_or, decide_eq_true_eq, Nat.beq_eq] at ho
  intro H locs ls hR hS hl hr hn
  dsimp only at hpc
  rw [hpc]
  rcases S with _ | ⟨(b | b | b), _ | ⟨(a | a | a), S'⟩⟩ <;> try exact False.elim hex
  obtain ⟨⟨⟨hd, hlen⟩, hnx⟩, hz⟩ := ho
  subst hlen
  refine lv_iushr hx rfl hd rfl ?_
  exact xq_fin hle hex hR hS hl (xq_rv_c (xi_rg _) (xq_rv_t (xq_rv_t hr))) hn hnx (by rw [List.map_cons, xq_ushr, xq_cvI])

set_option maxHeartbeats 1000000 in
theorem xq_s_i2l {Cq : Nat → List xq_V → Nat → xq_H → (Option xq_V → xq_H → Prop) → Prop} {Qx : Option xq_V → xq_H → Prop} (Cx : xq_Cx p R s m args meth c B D dA aI xs own ini rt rows nx0 nxE LV) (hle : ∀ pc L S nx h, K' pc L S nx h → xq_KW p l e R s m args below meth c B D dA aI xs rows nx0 Qf pc L S nx h)
    (hrow : xq_at rows pc = some (.i2l, (rpc, len, nxt), ax, vs)) (hex : xq_exec Cq nxE Qx K' (some (.i2l, (rpc, len, nxt), ax, vs)) L S nx h) : xq_KW p l e R s m args below meth c B D dA aI xs rows nx0 Qf pc L S nx h := by
  obtain ⟨hx, hown, hts, hKK, hIm, hok, hB, hRm, hini, hnE, hLV⟩ := Cx
  obtain ⟨ho, hpc⟩ := xq_row hok hrow
  simp only [xq_okb, xq_tm, xq_ts, xq_el, Bool.and_eq_true, Bool.or_eq_true, Bool.false_eq_true, false_or, decide_eq_true_eq, Nat.beq_eq] at ho
  intro H locs ls hR hS hl hr hn
  dsimp only at hpc
  rw [hpc]
  rcases S with _ | ⟨(a | a | a), S'⟩ <;> try exact False.elim hex
  obtain ⟨⟨⟨hd, hlen⟩, hnx⟩, hz⟩ := ho
  subst hlen
  have ha : -2147483648 ≤ a ∧ a ≤ 2147483647 := xq_rv_h hr
  refine lv_i2l hx rfl hd (v := Int64.ofInt a) ?_ ?_
  · rw [← Int64.toInt_inj, Int32.toInt_toInt64, xi_of ha, xj_of (by omega)]
  · exact xq_fin hle hex hR hS hl (xq_rv_c (by show _ ∧ _; omega) (xq_rv_t hr)) hn hnx rfl

set_option maxHeartbeats 1000000 in
theorem xq_s_i2c {Cq : Nat → List xq_V → Nat → xq_H → (Option xq_V → xq_H → Prop) → Prop} {Qx : Option xq_V → xq_H → Prop} (Cx : xq_Cx p R s m args meth c B D dA aI xs own ini rt rows nx0 nxE LV) (hle : ∀ pc L S nx h, K' pc L S nx h → xq_KW p l e R s m args below meth c B D dA aI xs rows nx0 Qf pc L S nx h)
    (hrow : xq_at rows pc = some (.i2c, (rpc, len, nxt), ax, vs)) (hex : xq_exec Cq nxE Qx K' (some (.i2c, (rpc, len, nxt), ax, vs)) L S nx h) : xq_KW p l e R s m args below meth c B D dA aI xs rows nx0 Qf pc L S nx h := by
  obtain ⟨hx, hown, hts, hKK, hIm, hok, hB, hRm, hini, hnE, hLV⟩ := Cx
  obtain ⟨ho, hpc⟩ := xq_row hok hrow
  simp only [xq_okb, xq_tm, xq_ts, xq_el, Bool.and_eq_true, Bool.or_eq_true, Bool.false_eq_true, false_or, decide_eq_true_eq, Nat.beq_eq] at ho
  intro H locs ls hR hS hl hr hn
  dsimp only at hpc
  rw [hpc]
  rcases S with _ | ⟨(a | a | a), S'⟩ <;> try exact False.elim hex
  obtain ⟨⟨⟨hd, hlen⟩, hnx⟩, hz⟩ := ho
  subst hlen
  have ha : -2147483648 ≤ a ∧ a ≤ 2147483647 := xq_rv_h hr
  obtain ⟨h0, hex⟩ := hex
  refine lv_i2c hx rfl hd (v := Int32.ofInt a) ?_ ?_
  · obtain ⟨n, rfl⟩ := Int.eq_ofNat_of_zero_le h0.1
    have hn2 : n < 65536 := by omega
    rw [pk_char]
    show nI _ = nI n
    have e : (Int32.ofInt (n : Int)).toBitVec.toNat = n := pk_tn (n := n) (by omega)
    rw [e, Nat.mod_eq_of_lt hn2]
  · exact xq_fin hle hex hR hS hl (xq_rv_c ha (xq_rv_t hr)) hn hnx rfl

set_option maxHeartbeats 1000000 in
theorem xq_s_i2b {Cq : Nat → List xq_V → Nat → xq_H → (Option xq_V → xq_H → Prop) → Prop} {Qx : Option xq_V → xq_H → Prop} (Cx : xq_Cx p R s m args meth c B D dA aI xs own ini rt rows nx0 nxE LV) (hle : ∀ pc L S nx h, K' pc L S nx h → xq_KW p l e R s m args below meth c B D dA aI xs rows nx0 Qf pc L S nx h)
    (hrow : xq_at rows pc = some (.i2b, (rpc, len, nxt), ax, vs)) (hex : xq_exec Cq nxE Qx K' (some (.i2b, (rpc, len, nxt), ax, vs)) L S nx h) : xq_KW p l e R s m args below meth c B D dA aI xs rows nx0 Qf pc L S nx h := by
  obtain ⟨hx, hown, hts, hKK, hIm, hok, hB, hRm, hini, hnE, hLV⟩ := Cx
  obtain ⟨ho, hpc⟩ := xq_row hok hrow
  simp only [xq_okb, xq_tm, xq_ts, xq_el, Bool.and_eq_true, Bool.or_eq_true, Bool.false_eq_true, false_or, decide_eq_true_eq, Nat.beq_eq] at ho
  intro H locs ls hR hS hl hr hn
  dsimp only at hpc
  rw [hpc]
  rcases S with _ | ⟨(a | a | a), S'⟩ <;> try exact False.elim hex
  obtain ⟨⟨⟨hd, hlen⟩, hnx⟩, hz⟩ := ho
  subst hlen
  have ha : -2147483648 ≤ a ∧ a ≤ 2147483647 := xq_rv_h hr
  obtain ⟨h0, hex⟩ := hex
  refine lv_i2b hx rfl hd (v := Int32.ofInt a) ?_ ?_
  · rw [← Int32.toInt_inj, Int8.toInt_toInt32, Int32.toInt_toInt8, xi_of ha, Int.bmod_def]
    split <;> omega
  · exact xq_fin hle hex hR hS hl (xq_rv_c ha (xq_rv_t hr)) hn hnx rfl

set_option maxHeartbeats 1000000 in
theorem xq_s_dup {Cq : Nat → List xq_V → Nat → xq_H → (Option xq_V → xq_H → Prop) → Prop} {Qx : Option xq_V → xq_H → Prop} (Cx : xq_Cx p R s m args meth c B D dA aI xs own ini rt rows nx0 nxE LV) (hle : ∀ pc L S nx h, K' pc L S nx h → xq_KW p l e R s m args below meth c B D dA aI xs rows nx0 Qf pc L S nx h)
    (hrow : xq_at rows pc = some (.dup, (rpc, len, nxt), ax, vs)) (hex : xq_exec Cq nxE Qx K' (some (.dup, (rpc, len, nxt), ax, vs)) L S nx h) : xq_KW p l e R s m args below meth c B D dA aI xs rows nx0 Qf pc L S nx h := by
  obtain ⟨hx, hown, hts, hKK, hIm, hok, hB, hRm, hini, hnE, hLV⟩ := Cx
  obtain ⟨ho, hpc⟩ := xq_row hok hrow
  simp only [xq_okb, xq_tm, xq_ts, xq_el, Bool.and_eq_true, Bool.or_eq_true, Bool.false_eq_true, false_or, decide_eq_true_eq, Nat.beq_eq] at ho
  intro H locs ls hR hS hl hr hn
  dsimp only at hpc
  rw [hpc]
  rcases S with _ | ⟨(a | a | a), S'⟩ <;> try exact False.elim hex
  · obtain ⟨⟨⟨hd, hlen⟩, hnx⟩, hz⟩ := ho
    subst hlen
    refine lv_dup hx rfl hd rfl ?_
    exact xq_fin hle hex hR hS hl (xq_rv_c (xq_rv_h hr) hr) hn hnx rfl
  · obtain ⟨⟨⟨hd, hlen⟩, hnx⟩, hz⟩ := ho
    subst hlen
    refine lv_dup hx rfl hd rfl ?_
    exact xq_fin hle hex hR hS hl (xq_rv_c (xq_rv_h hr) hr) hn hnx rfl

set_option maxHeartbeats 1000000 in
theorem xq_s_dup2 {Cq : Nat → List xq_V → Nat → xq_H → (Option xq_V → xq_H → Prop) → Prop} {Qx : Option xq_V → xq_H → Prop} (Cx : xq_Cx p R s m args meth c B D dA aI xs own ini rt rows nx0 nxE LV) (hle : ∀ pc L S nx h, K' pc L S nx h → xq_KW p l e R s m args below meth c B D dA aI xs rows nx0 Qf pc L S nx h)
    (hrow : xq_at rows pc = some (.dup2, (rpc, len, nxt), ax, vs)) (hex : xq_exec Cq nxE Qx K' (some (.dup2, (rpc, len, nxt), ax, vs)) L S nx h) : xq_KW p l e R s m args below meth c B D dA aI xs rows nx0 Qf pc L S nx h := by
  obtain ⟨hx, hown, hts, hKK, hIm, hok, hB, hRm, hini, hnE, hLV⟩ := Cx
  obtain ⟨ho, hpc⟩ := xq_row hok hrow
  simp only [xq_okb, xq_tm, xq_ts, xq_el, Bool.and_eq_true, Bool.or_eq_true, Bool.false_eq_true, false_or, decide_eq_true_eq, Nat.beq_eq] at ho
  intro H locs ls hR hS hl hr hn
  dsimp only at hpc
  rw [hpc]
  rcases S with _ | ⟨(b | b | b), _ | ⟨(a | a | a), S'⟩⟩ <;> try exact False.elim hex
  obtain ⟨⟨⟨hd, hlen⟩, hnx⟩, hz⟩ := ho
  subst hlen
  refine lv_dup2_11 hx rfl hd rfl rfl ?_
  exact xq_fin hle hex hR hS hl (xq_rv_c (xq_rv_h hr) (xq_rv_c (xq_rv_h (xq_rv_t hr)) hr)) hn hnx rfl

set_option maxHeartbeats 1000000 in
theorem xq_s_pop {Cq : Nat → List xq_V → Nat → xq_H → (Option xq_V → xq_H → Prop) → Prop} {Qx : Option xq_V → xq_H → Prop} (Cx : xq_Cx p R s m args meth c B D dA aI xs own ini rt rows nx0 nxE LV) (hle : ∀ pc L S nx h, K' pc L S nx h → xq_KW p l e R s m args below meth c B D dA aI xs rows nx0 Qf pc L S nx h)
    (hrow : xq_at rows pc = some (.pop, (rpc, len, nxt), ax, vs)) (hex : xq_exec Cq nxE Qx K' (some (.pop, (rpc, len, nxt), ax, vs)) L S nx h) : xq_KW p l e R s m args below meth c B D dA aI xs rows nx0 Qf pc L S nx h := by
  obtain ⟨hx, hown, hts, hKK, hIm, hok, hB, hRm, hini, hnE, hLV⟩ := Cx
  obtain ⟨ho, hpc⟩ := xq_row hok hrow
  simp only [xq_okb, xq_tm, xq_ts, xq_el, Bool.and_eq_true, Bool.or_eq_true, Bool.false_eq_true, false_or, decide_eq_true_eq, Nat.beq_eq] at ho
  intro H locs ls hR hS hl hr hn
  dsimp only at hpc
  rw [hpc]
  rcases S with _ | ⟨(a | a | a), S'⟩ <;> try exact False.elim hex
  · obtain ⟨⟨⟨hd, hlen⟩, hnx⟩, hz⟩ := ho
    subst hlen
    refine lv_pop hx rfl hd rfl ?_
    exact xq_fin hle hex hR hS hl (xq_rv_t hr) hn hnx rfl
  · obtain ⟨⟨⟨hd, hlen⟩, hnx⟩, hz⟩ := ho
    subst hlen
    refine lv_pop hx rfl hd rfl ?_
    exact xq_fin hle hex hR hS hl (xq_rv_t hr) hn hnx rfl

set_option maxHeartbeats 1000000 in
theorem xq_s_iinc {Cq : Nat → List xq_V → Nat → xq_H → (Option xq_V → xq_H → Prop) → Prop} {Qx : Option xq_V → xq_H → Prop} {k : Nat} {d : Int} (Cx : xq_Cx p R s m args meth c B D dA aI xs own ini rt rows nx0 nxE LV) (hle : ∀ pc L S nx h, K' pc L S nx h → xq_KW p l e R s m args below meth c B D dA aI xs rows nx0 Qf pc L S nx h)
    (hrow : xq_at rows pc = some (.iinc k d, (rpc, len, nxt), ax, vs)) (hex : xq_exec Cq nxE Qx K' (some (.iinc k d, (rpc, len, nxt), ax, vs)) L S nx h) : xq_KW p l e R s m args below meth c B D dA aI xs rows nx0 Qf pc L S nx h := by
  obtain ⟨hx, hown, hts, hKK, hIm, hok, hB, hRm, hini, hnE, hLV⟩ := Cx
  obtain ⟨ho, hpc⟩ := xq_row hok hrow
  simp only [xq_okb, xq_tm, xq_ts, xq_el, Bool.and_eq_true, Bool.or_eq_true, Bool.false_eq_true, false_or, decide_eq_true_eq, Nat.beq_eq] at ho
  intro H locs ls hR hS hl hr hn
  dsimp only at hpc
  rw [hpc]
  unfold xq_exec at hex
  dsimp only at hex
  split at hex
  · rename_i i hg
    obtain ⟨⟨⟨hd, hlen⟩, hnx⟩, hz⟩ := ho
    subst hlen
    have hi : -2147483648 ≤ i ∧ i ≤ 2147483647 := (hl.2.2.2 _ _ hg).2
    have hex' := xq_ari_of hex (Int32.ofInt i + Int32.ofInt d) (by rw [Int32.toInt_add, xi_of hi, xi_of hz])
    unfold xq_st at hex'
    split at hex'
    · rename_i hb
      split at hex'
      · rename_i hp
        have hk : k < c.maxLocals := by rw [← hl.2.2.1]; exact Nat.blt_eq.mp hb
        obtain ⟨j, hj⟩ := List.getElem?_of_mem ((xq_ll_mem (B := B) (aI := aI) (n := c.maxLocals) (L := L) (k, xq_cv B aI (xI i))).mpr ⟨_, hk, hg, rfl⟩)
        refine lv_iinc hx rfl hd (xq_ll_has hl) hj rfl hk rfl (fun ls' hl' => ?_)
        exact xq_fin hle (xq_nrm_s _ _ hex') hR hS (xq_store1 hl hp (xi_rg _) (by rw [xq_cvI]; exact hl')) hr hn hnx rfl
      · exact hex'.elim
    · exact hex'.elim
  · exact hex.elim

set_option maxHeartbeats 1000000 in
theorem xq_s_goto {Cq : Nat → List xq_V → Nat → xq_H → (Option xq_V → xq_H → Prop) → Prop} {Qx : Option xq_V → xq_H → Prop} {off : Int} (Cx : xq_Cx p R s m args meth c B D dA aI xs own ini rt rows nx0 nxE LV) (hle : ∀ pc L S nx h, K' pc L S nx h → xq_KW p l e R s m args below meth c B D dA aI xs rows nx0 Qf pc L S nx h)
    (hrow : xq_at rows pc = some (.goto off, (rpc, len, nxt), ax, vs)) (hex : xq_exec Cq nxE Qx K' (some (.goto off, (rpc, len, nxt), ax, vs)) L S nx h) : xq_KW p l e R s m args below meth c B D dA aI xs rows nx0 Qf pc L S nx h := by
  obtain ⟨hx, hown, hts, hKK, hIm, hok, hB, hRm, hini, hnE, hLV⟩ := Cx
  obtain ⟨ho, hpc⟩ := xq_row hok hrow
  simp only [xq_okb, xq_tm, xq_ts, xq_el, Bool.and_eq_true, Bool.or_eq_true, Bool.false_eq_true, false_or, decide_eq_true_eq, Nat.beq_eq] at ho
  intro H locs ls hR hS hl hr hn
  dsimp only at hpc
  rw [hpc]
  rcases ax with _ | ⟨t, _ | ⟨a2, ax⟩⟩ <;> try exact False.elim hex
  obtain ⟨⟨⟨hd, hlen⟩, -⟩, hz⟩ := ho
  subst hlen
  refine lv_goto hx rfl hd (of_decide_eq_true hz) ?_
  exact xq_fin hle hex hR hS hl hr hn rfl rfl

set_option maxHeartbeats 1000000 in
theorem xq_s_ifCond {Cq : Nat → List xq_V → Nat → xq_H → (Option xq_V → xq_H → Prop) → Prop} {Qx : Option xq_V → xq_H → Prop} {cnd : ClassFile.Cond} {off : Int} (Cx : xq_Cx p R s m args meth c B D dA aI xs own ini rt rows nx0 nxE LV) (hle : ∀ pc L S nx h, K' pc L S nx h → xq_KW p l e R s m args below meth c B D dA aI xs rows nx0 Qf pc L S nx h)
    (hrow : xq_at rows pc = some (.ifCond cnd off, (rpc, len, nxt), ax, vs)) (hex : xq_exec Cq nxE Qx K' (some (.ifCond cnd off, (rpc, len, nxt), ax, vs)) L S nx h) : xq_KW p l e R s m args below meth c B D dA aI xs rows nx0 Qf pc L S nx h := by
  obtain ⟨hx, hown, hts, hKK, hIm, hok, hB, hRm, hini, hnE, hLV⟩ := Cx
  obtain ⟨ho, hpc⟩ := xq_row hok hrow
  simp only [xq_okb, xq_tm, xq_ts, xq_el, Bool.and_eq_true, Bool.or_eq_true, Bool.false_eq_true, false_or, decide_eq_true_eq, Nat.beq_eq] at ho
  intro H locs ls hR hS hl hr hn
  dsimp only at hpc
  rw [hpc]
  rcases ax with _ | ⟨t, _ | ⟨a2, ax⟩⟩ <;> try exact False.elim hex
  rcases S with _ | ⟨(a | a | a), S'⟩ <;> try exact False.elim hex
  obtain ⟨⟨⟨hd, hlen⟩, hnx⟩, hz⟩ := ho
  subst hlen
  have ha : -2147483648 ≤ a ∧ a ≤ 2147483647 := xq_rv_h hr
  have hr' := xq_rv_t hr
  have e0 : Int32.ofInt 0 = 0 := rfl
  have z0 : -2147483648 ≤ (0 : Int) ∧ (0 : Int) ≤ 2147483647 := by omega
  cases cnd
  · refine lv_if_eq hx rfl hd (of_decide_eq_true hz) (fun q => xq_fin hle (hex.1 ((xq_eqI ha z0).mp q)) hR hS hl hr' hn rfl rfl) (fun q => xq_fin hle (hex.2 (fun z => q ((xq_eqI ha z0).mpr z))) hR hS hl hr' hn hnx rfl)
  · refine lv_if_ne hx rfl hd (of_decide_eq_true hz) (fun q => xq_fin hle (hex.1 (fun z => q ((xq_eqI ha z0).mpr z))) hR hS hl hr' hn rfl rfl) (fun q => xq_fin hle (hex.2 ((xq_eqI ha z0).mp q)) hR hS hl hr' hn hnx rfl)
  · refine lv_if_lt hx rfl hd (of_decide_eq_true hz) (fun q => xq_fin hle (hex.1 ((xq_ltI ha z0).mp q)) hR hS hl hr' hn rfl rfl) (fun q => xq_fin hle (hex.2 (fun z => q ((xq_ltI ha z0).mpr z))) hR hS hl hr' hn hnx rfl)
  · refine lv_if_ge hx rfl hd (of_decide_eq_true hz) (fun q => xq_fin hle (hex.1 (fun z => absurd ((xq_leI z0 ha).mp q) (by omega))) hR hS hl hr' hn rfl rfl) (fun q => xq_fin hle (hex.2 (Int.not_le.mp (fun z => q ((xq_leI z0 ha).mpr z)))) hR hS hl hr' hn hnx rfl)
  · refine lv_if_gt hx rfl hd (of_decide_eq_true hz) (fun q => xq_fin hle (hex.1 ((xq_ltI z0 ha).mp q)) hR hS hl hr' hn rfl rfl) (fun q => xq_fin hle (hex.2 (fun z => q ((xq_ltI z0 ha).mpr z))) hR hS hl hr' hn hnx rfl)
  · refine lv_if_le hx rfl hd (of_decide_eq_true hz) (fun q => xq_fin hle (hex.1 (fun z => absurd ((xq_leI ha z0).mp q) (by omega))) hR hS hl hr' hn rfl rfl) (fun q => xq_fin hle (hex.2 (Int.not_le.mp (fun z => q ((xq_leI ha z0).mpr z)))) hR hS hl hr' hn hnx rfl)

set_option maxHeartbeats 1000000 in
theorem xq_s_if_icmp {Cq : Nat → List xq_V → Nat → xq_H → (Option xq_V → xq_H → Prop) → Prop} {Qx : Option xq_V → xq_H → Prop} {cnd : ClassFile.Cond} {off : Int} (Cx : xq_Cx p R s m args meth c B D dA aI xs own ini rt rows nx0 nxE LV) (hle : ∀ pc L S nx h, K' pc L S nx h → xq_KW p l e R s m args below meth c B D dA aI xs rows nx0 Qf pc L S nx h)
    (hrow : xq_at rows pc = some (.if_icmp cnd off, (rpc, len, nxt), ax, vs)) (hex : xq_exec Cq nxE Qx K' (some (.if_icmp cnd off, (rpc, len, nxt), ax, vs)) L S nx h) : xq_KW p l e R s m args below meth c B D dA aI xs rows nx0 Qf pc L S nx h := by
  obtain ⟨hx, hown, hts, hKK, hIm, hok, hB, hRm, hini, hnE, hLV⟩ := Cx
  obtain ⟨ho, hpc⟩ := xq_row hok hrow
  simp only [xq_okb, xq_tm, xq_ts, xq_el, Bool.and_eq_true, Bool.or_eq_true, Bool.false_eq_true, false_or, decide_eq_true_eq, Nat.beq_eq] at ho
  intro H locs ls hR hS hl hr hn
  dsimp only at hpc
  rw [hpc]
  rcases ax with _ | ⟨t, _ | ⟨a2, ax⟩⟩ <;> try exact False.elim hex
  rcases S with _ | ⟨(b | b | b), _ | ⟨(a | a | a), S'⟩⟩ <;> try exact False.elim hex
  obtain ⟨⟨⟨hd, hlen⟩, hnx⟩, hz⟩ := ho
  subst hlen
  have hb : -2147483648 ≤ b ∧ b ≤ 2147483647 := xq_rv_h hr
  have ha : -2147483648 ≤ a ∧ a ≤ 2147483647 := xq_rv_h (xq_rv_t hr)
  have hr' := xq_rv_t (xq_rv_t hr)
  cases cnd
  · refine lv_icmp_eq hx rfl hd (of_decide_eq_true hz) (fun q => xq_fin hle (hex.1 ((xq_eqI ha hb).mp q)) hR hS hl hr' hn rfl rfl) (fun q => xq_fin hle (hex.2 (fun z => q ((xq_eqI ha hb).mpr z))) hR hS hl hr' hn hnx rfl)
  · refine lv_icmp_ne hx rfl hd (of_decide_eq_true hz) (fun q => xq_fin hle (hex.1 (fun z => q ((xq_eqI ha hb).mpr z))) hR hS hl hr' hn rfl rfl) (fun q => xq_fin hle (hex.2 ((xq_eqI ha hb).mp q)) hR hS hl hr' hn hnx rfl)
  · refine lv_icmp_lt hx rfl hd (of_decide_eq_true hz) (fun q => xq_fin hle (hex.1 ((xq_ltI ha hb).mp q)) hR hS hl hr' hn rfl rfl) (fun q => xq_fin hle (hex.2 (fun z => q ((xq_ltI ha hb).mpr z))) hR hS hl hr' hn hnx rfl)
  · refine lv_icmp_ge hx rfl hd (of_decide_eq_true hz) (fun q => xq_fin hle (hex.1 (fun z => absurd ((xq_leI hb ha).mp q) (by omega))) hR hS hl hr' hn rfl rfl) (fun q => xq_fin hle (hex.2 (Int.not_le.mp (fun z => q ((xq_leI hb ha).mpr z)))) hR hS hl hr' hn hnx rfl)
  · refine lv_icmp_gt hx rfl hd (of_decide_eq_true hz) (fun q => xq_fin hle (hex.1 ((xq_ltI hb ha).mp q)) hR hS hl hr' hn rfl rfl) (fun q => xq_fin hle (hex.2 (fun z => q ((xq_ltI hb ha).mpr z))) hR hS hl hr' hn hnx rfl)
  · refine lv_icmp_le hx rfl hd (of_decide_eq_true hz) (fun q => xq_fin hle (hex.1 (fun z => absurd ((xq_leI ha hb).mp q) (by omega))) hR hS hl hr' hn rfl rfl) (fun q => xq_fin hle (hex.2 (Int.not_le.mp (fun z => q ((xq_leI ha hb).mpr z)))) hR hS hl hr' hn hnx rfl)

set_option maxHeartbeats 1000000 in
theorem xq_s_getfield {Cq : Nat → List xq_V → Nat → xq_H → (Option xq_V → xq_H → Prop) → Prop} {Qx : Option xq_V → xq_H → Prop} {k : Nat} (Cx : xq_Cx p R s m args meth c B D dA aI xs own ini rt rows nx0 nxE LV) (hle : ∀ pc L S nx h, K' pc L S nx h → xq_KW p l e R s m args below meth c B D dA aI xs rows nx0 Qf pc L S nx h)
    (hrow : xq_at rows pc = some (.getfield k, (rpc, len, nxt), ax, vs)) (hex : xq_exec Cq nxE Qx K' (some (.getfield k, (rpc, len, nxt), ax, vs)) L S nx h) : xq_KW p l e R s m args below meth c B D dA aI xs rows nx0 Qf pc L S nx h := by
  obtain ⟨hx, hown, hts, hKK, hIm, hok, hB, hRm, hini, hnE, hLV⟩ := Cx
  obtain ⟨ho, hpc⟩ := xq_row hok hrow
  simp only [xq_okb, xq_tm, xq_ts, xq_el, Bool.and_eq_true, Bool.or_eq_true, Bool.false_eq_true, false_or, decide_eq_true_eq, Nat.beq_eq] at ho
  intro H locs ls hR hS hl hr hn
  dsimp only at hpc
  rw [hpc]
  rcases ax with _ | ⟨kind, _ | ⟨ci, _ | ⟨fk, _ | ⟨wi, _ | ⟨a5, ax⟩⟩⟩⟩⟩ <;> try exact False.elim hex
  all_goals rcases vs with _ | ⟨kI, _ | ⟨v2, vs⟩⟩ <;> try exact False.elim hex
  all_goals rcases S with _ | ⟨(o | o | o), S'⟩ <;> try exact False.elim hex
  obtain ⟨⟨⟨hd, hlen⟩, hnx⟩, hz⟩ := ho
  subst hlen
  have hr' := xq_rv_t hr
  replace hz : (decide (kI = (fk : Int)) && xq_okg own k kind ci fk wi) = true := hz
  rw [Bool.and_eq_true] at hz
  obtain ⟨hkI, hz⟩ := hz
  replace hkI := of_decide_eq_true hkI
  replace hex : xq_gf kind ci fk kI nx h o (fun v => K' nxt L (v :: S') nx h) := hex
  unfold xq_gf at hex
  rw [hkI] at hex
  split at hex
  · split at hex
    · rename_i hb
      rw [Bool.and_eq_true, Nat.ble_eq, Nat.ble_eq] at hb
      obtain ⟨i, rfl⟩ : ∃ i, o = 1100 + i := ⟨o - 1100, by omega⟩
      have e : xq_cv B aI (xR (1100 + i)) = .ref (aI (1100 + i)) := by show Value.ref (xq_ad B aI _) = _; rw [xq_ad, if_neg (by omega)]
      rw [List.map_cons, e]
      refine vk_getf hx rfl (hIm.1.1 i (by omega)).2.1 hS hown (hts _ (xq_wd_in hz)) (fun _ z => z) hd ?_
      exact xq_fin hle hex hR hS hl (xq_rv_c (by show _ ∧ _; omega) hr') hn hnx rfl
    · exact hex.elim
  · split at hex
    · rename_i hb
      rw [Bool.and_eq_true, Nat.ble_eq, Nat.ble_eq] at hb
      obtain ⟨i, rfl⟩ : ∃ i, o = 1100 + i := ⟨o - 1100, by omega⟩
      have e : xq_cv B aI (xR (1100 + i)) = .ref (aI (1100 + i)) := by show Value.ref (xq_ad B aI _) = _; rw [xq_ad, if_neg (by omega)]
      rw [List.map_cons, e]
      refine vk_getf hx rfl (hIm.1.1 i (by omega)).2.2.1 hS hown (hts _ (xq_wd_in hz)) (fun _ z => z) hd ?_
      refine xq_fin hle hex hR hS hl (xq_rv_c trivial hr') hn hnx ?_
      show Value.ref (xq_ad B aI _) :: _ = _
      rw [xq_ad, if_neg (by omega), show 1100 + i + 100 = 1200 + i by omega]
    · exact hex.elim
  · rename_i n4 n5
    split at hex
    · rename_i ci' hcls
      split at hex
      · rename_i hb
        rw [Bool.and_eq_true, Nat.beq_eq, Nat.blt_eq] at hb
        obtain ⟨rfl, hoN⟩ := hb
        have hz' : xq_okf own k kind ci fk wi = true := by
          unfold xq_okg at hz
          split at hz
          · exact absurd rfl n4
          · exact absurd rfl n5
          · exact hz
        unfold xq_okf at hz'
        split at hz'
        · rename_i C T N hcl
          rw [Bool.and_eq_true, Bool.and_eq_true, Nat.blt_eq, Nat.beq_eq] at hz'
          obtain ⟨⟨hfN, hfk⟩, hwi⟩ := hz'
          obtain ⟨ty, hin, hty, hnm, hnf, hkd⟩ := xq_cls_ok hcl
          dsimp only at hin hty hnm hnf hkd
          have hci : ci < 11 := (List.getElem?_eq_some_iff.mp hcl).1
          have ho80 : o < 80 := xq_cls_lt hcls (fun z => by cases z; omega)
          have ha := xq_ws_at B dA h hoN ho80
          have hce : xq_ce B dA h o = .inr (ci, xq_fs B h o ci) := by unfold xq_ce; rw [hcls]
          rw [hce] at ha
          have hv : (xq_fs B h o ci)[fk]? = some (xq_fv B h o ci fk) := by
            unfold xq_fs
            rw [hnf, List.getElem?_map, List.getElem?_range hfN]
            rfl
          have ead : xq_cv B aI (xR o) = .ref (B + o) := by show Value.ref (xq_ad B aI _) = _; rw [xq_ad, if_pos (by omega)]
          rw [List.map_cons, ead]
          refine va_get (T := T) (N := N) (C := C) (ci := ci) hx rfl hts hin hown hKK hR.1 o ha hcl fk hfN (hts _ (xq_wd_in hwi)) (fun _ z => z) hv hd ?_
          have hrg := hR.2.2.1 o (fk : Int)
          have hf2 : xq_fv B h o ci fk = (if kind = 0 ∨ kind = 1 then .int (Int32.ofInt (h o fk)) else if h o fk = 0 then .null else .ref (B + (h o fk - 1).toNat)) := by
            unfold xq_fv
            rw [hfk]
            split
            · rfl
            · rfl
            · rename_i q0 q1
              rw [if_neg (show ¬ (kind = 0 ∨ kind = 1) from fun z => z.elim (fun w => q0 w) (fun w => q1 w))]
          rw [hf2]
          split at hex
          · obtain ⟨hex, hrf⟩ := xq_lit_s _ hex
            · rw [if_neg (by decide)]
              have hk1 : h o fk = (xq_rf o fk : Int) + 1 ∧ K' nxt L (xR (xq_rf o fk) :: S') nx h := by
                split at hex
                · rename_i h80
                  rw [Nat.beq_eq] at h80
                  exact ⟨hR.2.2.2.1 h80 o ci fk ho80 hcls hfk, hex⟩
                · exact hex
              obtain ⟨h1, hex⟩ := hk1
              rw [h1, if_neg (by omega)]
              refine xq_fin hle hex hR hS hl (xq_rv_c trivial hr') hn hnx ?_
              show Value.ref (xq_ad B aI _) :: _ = _
              rw [xq_ad, if_pos (by omega)]
              congr 3
              omega
          · obtain ⟨t, h1, h2, hex⟩ := hex
            rw [if_neg (by decide), h1, if_neg (by omega)]
            refine xq_fin hle hex hR hS hl (xq_rv_c trivial hr') hn hnx ?_
            show Value.ref (xq_ad B aI _) :: _ = _
            rw [xq_ad, if_pos (by omega)]
            congr 3
            omega
          · rename_i q2 q3
            have hk01 : kind = 0 ∨ kind = 1 := by
              rcases hkd fk hfN with z | z | z
              · left; rw [← hfk]; exact z.1
              · right; rw [← hfk]; exact z.1
              · rcases z.1 with z | z
                · exact absurd (hfk.symm.trans z) (fun w => q2 w)
                · exact absurd (hfk.symm.trans z) (fun w => q3 w)
            rw [if_pos hk01]
            exact xq_fin hle hex hR hS hl (xq_rv_c hrg hr') hn hnx rfl
        · exact absurd hz' (by decide)
      · exact hex.elim
    · exact hex.elim

set_option maxHeartbeats 1000000 in
theorem xq_s_getstatic {Cq : Nat → List xq_V → Nat → xq_H → (Option xq_V → xq_H → Prop) → Prop} {Qx : Option xq_V → xq_H → Prop} {k : Nat} (Cx : xq_Cx p R s m args meth c B D dA aI xs own ini rt rows nx0 nxE LV) (hle : ∀ pc L S nx h, K' pc L S nx h → xq_KW p l e R s m args below meth c B D dA aI xs rows nx0 Qf pc L S nx h)
    (hrow : xq_at rows pc = some (.getstatic k, (rpc, len, nxt), ax, vs)) (hex : xq_exec Cq nxE Qx K' (some (.getstatic k, (rpc, len, nxt), ax, vs)) L S nx h) : xq_KW p l e R s m args below meth c B D dA aI xs rows nx0 Qf pc L S nx h := by
  obtain ⟨hx, hown, hts, hKK, hIm, hok, hB, hRm, hini, hnE, hLV⟩ := Cx
  obtain ⟨ho, hpc⟩ := xq_row hok hrow
  simp only [xq_okb, xq_tm, xq_ts, xq_el, Bool.and_eq_true, Bool.or_eq_true, Bool.false_eq_true, false_or, decide_eq_true_eq, Nat.beq_eq] at ho
  intro H locs ls hR hS hl hr hn
  dsimp only at hpc
  rw [hpc]
  rcases ax with _ | ⟨k0, _ | ⟨o, _ | ⟨wi, _ | ⟨nest, _ | ⟨a5, ax⟩⟩⟩⟩⟩ <;> try (simp at ho; done)
  obtain ⟨⟨⟨hd, hlen⟩, hnx⟩, hz⟩ := ho
  subst hlen
  have hz : xq_oks own k k0 o wi nest = true := hz
  unfold xq_oks at hz
  split at hz
  · refine va_gets hx rfl hIm.2.2.1.1 hS hown (hts _ (xq_wd_in hz)) (fun _ z => z) hd ?_
    exact xq_fin (n' := nxt) (L' := L) (S' := xR 1001 :: S) hle hex hR hS hl (xq_rv_c trivial hr) hn hnx rfl
  · refine va_getsN hx rfl hIm.2.2.1.1 hS hown (va_Nw.use rfl (hIm.2.2.2.2.2.2.2 _ (xq_wn_in hz))) (fun _ z => z) hd ?_
    exact xq_fin (n' := nxt) (L' := L) (S' := xR 1001 :: S) hle hex hR hS hl (xq_rv_c trivial hr) hn hnx rfl
  · refine va_gets hx rfl hIm.2.2.2.1.1 hS hown (hts _ (xq_wd_in hz)) (fun _ z => z) hd ?_
    exact xq_fin (n' := nxt) (L' := L) (S' := xR 1002 :: S) hle hex hR hS hl (xq_rv_c trivial hr) hn hnx rfl
  · refine va_getsN hx rfl hIm.2.2.2.1.1 hS hown (va_Nw.use rfl (hIm.2.2.2.2.2.2.2 _ (xq_wn_in hz))) (fun _ z => z) hd ?_
    exact xq_fin (n' := nxt) (L' := L) (S' := xR 1002 :: S) hle hex hR hS hl (xq_rv_c trivial hr) hn hnx rfl
  · refine va_gets hx rfl hIm.2.2.2.2.2.1 hS hown (hts _ (xq_wd_in hz)) (fun _ z => z) hd ?_
    exact xq_fin (n' := nxt) (L' := L) (S' := xR 1003 :: S) hle hex hR hS hl (xq_rv_c trivial hr) hn hnx rfl
  · refine va_gets hx rfl hIm.2.2.2.2.1 hS hown (hts _ (xq_wd_in hz)) (fun _ z => z) hd ?_
    exact xq_fin (n' := nxt) (L' := L) (S' := xI 1 :: S) hle hex hR hS hl (xq_rv_c (by show _ ∧ _; omega) hr) hn hnx rfl
  · exact absurd hz (by decide)

set_option maxHeartbeats 1000000 in
theorem xq_s_iaload {Cq : Nat → List xq_V → Nat → xq_H → (Option xq_V → xq_H → Prop) → Prop} {Qx : Option xq_V → xq_H → Prop} (Cx : xq_Cx p R s m args meth c B D dA aI xs own ini rt rows nx0 nxE LV) (hle : ∀ pc L S nx h, K' pc L S nx h → xq_KW p l e R s m args below meth c B D dA aI xs rows nx0 Qf pc L S nx h)
    (hrow : xq_at rows pc = some (.iaload, (rpc, len, nxt), ax, vs)) (hex : xq_exec Cq nxE Qx K' (some (.iaload, (rpc, len, nxt), ax, vs)) L S nx h) : xq_KW p l e R s m args below meth c B D dA aI xs rows nx0 Qf pc L S nx h := by
  obtain ⟨hx, hown, hts, hKK, hIm, hok, hB, hRm, hini, hnE, hLV⟩ := Cx
  obtain ⟨ho, hpc⟩ := xq_row hok hrow
  simp only [xq_okb, xq_tm, xq_ts, xq_el, Bool.and_eq_true, Bool.or_eq_true, Bool.false_eq_true, false_or, decide_eq_true_eq, Nat.beq_eq] at ho
  intro H locs ls hR hS hl hr hn
  dsimp only at hpc
  rw [hpc]
  rcases S with _ | ⟨(i | i | i), _ | ⟨(o | o | o), S'⟩⟩ <;> try exact False.elim hex
  obtain ⟨⟨⟨hd, hlen⟩, hnx⟩, hz⟩ := ho
  subst hlen
  have hr' := xq_rv_t (xq_rv_t hr)
  unfold xq_exec at hex
  dsimp only at hex
  unfold xq_ild at hex
  split at hex
  · rename_i h999
    split at hex
    · rename_i hoN
      rw [Nat.blt_eq] at hoN
      split at hex
      · rename_i n hcls
        obtain ⟨hi, hex⟩ := hex
        have ho80 : o < 80 := xq_cls_lt hcls (fun z => by cases z)
        have ha := xq_ws_at B dA h hoN ho80
        have hce : xq_ce B dA h o = .inl (dA 0, n, .inl (fun j => Int32.ofInt (h o (j : Int)))) := by unfold xq_ce; rw [hcls]
        rw [hce] at ha
        have hn2 := xq_clsn ho80 hcls
        have ead : xq_cv B aI (xR o) = .ref (B + o) := by show Value.ref (xq_ad B aI _) = _; rw [xq_ad, if_pos (by omega)]
        rw [List.map_cons, List.map_cons, ead]
        refine va_iald hx rfl hKK hR.1 o 0 ha rfl (xi_in hi (by omega)) hd ?_
        rw [xi_cl (by omega), Int.toNat_of_nonneg hi.1]
        exact xq_fin hle hex hR hS hl (xq_rv_c (hR.2.2.1 _ _) hr') hn hnx rfl
      · exact hex.elim
    · exact hex.elim
  · rename_i h999
    rw [Nat.ble_eq] at h999
    have ead : xq_cv B aI (xR o) = .ref (aI o) := by show Value.ref (xq_ad B aI _) = _; rw [xq_ad, if_neg (by omega)]
    rw [List.map_cons, List.map_cons, ead]
    split at hex
    · rename_i ho9
      rw [Nat.beq_eq] at ho9
      subst ho9
      obtain ⟨n, e1, e2, hT⟩ := hIm.2.2.2.2.2.2.1
      rw [hR.2.1] at hex
      obtain ⟨hi, hex⟩ := hex
      rw [e1] at hi
      refine va_ti hx rfl hT hS (xi_in hi (by omega)) rfl hd ?_
      rw [xi_cl (by omega), Int.toNat_of_nonneg hi.1]
      have hrg := hR.2.2.1 999 i
      rw [hR.2.1] at hrg
      exact xq_fin hle hex hR hS hl (xq_rv_c hrg hr') hn hnx rfl
    · split at hex
      · exact hex.elim
      · rename_i a l hcon
        obtain ⟨hi, hex⟩ := hex
        rw [← hcon] at hi hex
        have hc : (o = 1001 ∧ va_T .int (aI o) (xq_con o).length (fun j => .int (Int32.ofInt ((xq_con o).getD j 0))) (fun q => B ≤ q) s s.heap) ∨ (o = 1002 ∧ va_T .int (aI o) (xq_con o).length (fun j => .int (Int32.ofInt ((xq_con o).getD j 0))) (fun q => B ≤ q) s s.heap) := by
          unfold xq_con at hcon
          split at hcon
          · exact Or.inl ⟨rfl, hIm.2.2.1.2⟩
          · exact Or.inr ⟨rfl, hIm.2.2.2.1.2⟩
          · cases hcon
        have hcr : -2147483648 ≤ (xq_con o).getD i.toNat 0 ∧ (xq_con o).getD i.toNat 0 ≤ 2147483647 := by
          have hl2 : i.toNat < (xq_con o).length := by omega
          rw [List.getD_eq_getElem?_getD, List.getElem?_eq_getElem hl2]
          have hm := List.getElem_mem hl2
          rcases hc with ⟨rfl, -⟩ | ⟨rfl, -⟩
          · exact (by decide : ∀ x ∈ xq_con 1001, -2147483648 ≤ x ∧ x ≤ 2147483647) _ hm
          · exact (by decide : ∀ x ∈ xq_con 1002, -2147483648 ≤ x ∧ x ≤ 2147483647) _ hm
        have hl9 : (xq_con o).length < 100 := by
          rcases hc with ⟨rfl, -⟩ | ⟨rfl, -⟩ <;> decide
        rcases hc with ⟨-, hT⟩ | ⟨-, hT⟩
        · refine va_ti hx rfl hT hS (xi_in hi (by omega)) rfl hd ?_
          rw [xi_cl (by omega)]
          exact xq_fin hle hex hR hS hl (xq_rv_c hcr hr') hn hnx rfl
        · refine va_ti hx rfl hT hS (xi_in hi (by omega)) rfl hd ?_
          rw [xi_cl (by omega)]
          exact xq_fin hle hex hR hS hl (xq_rv_c hcr hr') hn hnx rfl

set_option maxHeartbeats 1000000 in
theorem xq_s_baload {Cq : Nat → List xq_V → Nat → xq_H → (Option xq_V → xq_H → Prop) → Prop} {Qx : Option xq_V → xq_H → Prop} (Cx : xq_Cx p R s m args meth c B D dA aI xs own ini rt rows nx0 nxE LV) (hle : ∀ pc L S nx h, K' pc L S nx h → xq_KW p l e R s m args below meth c B D dA aI xs rows nx0 Qf pc L S nx h)
    (hrow : xq_at rows pc = some (.baload, (rpc, len, nxt), ax, vs)) (hex : xq_exec Cq nxE Qx K' (some (.baload, (rpc, len, nxt), ax, vs)) L S nx h) : xq_KW p l e R s m args below meth c B D dA aI xs rows nx0 Qf pc L S nx h := by
  obtain ⟨hx, hown, hts, hKK, hIm, hok, hB, hRm, hini, hnE, hLV⟩ := Cx
  obtain ⟨ho, hpc⟩ := xq_row hok hrow
  simp only [xq_okb, xq_tm, xq_ts, xq_el, Bool.and_eq_true, Bool.or_eq_true, Bool.false_eq_true, false_or, decide_eq_true_eq, Nat.beq_eq] at ho
  intro H locs ls hR hS hl hr hn
  dsimp only at hpc
  rw [hpc]
  rcases S with _ | ⟨(i | i | i), _ | ⟨(o | o | o), S'⟩⟩ <;> try exact False.elim hex
  obtain ⟨⟨⟨hd, hlen⟩, hnx⟩, hz⟩ := ho
  subst hlen
  have hr' := xq_rv_t (xq_rv_t hr)
  unfold xq_exec at hex
  dsimp only at hex
  unfold xq_bld at hex
  split at hex
  · rename_i h999
    split at hex
    · rename_i hoN
      rw [Nat.blt_eq] at hoN
      split at hex
      · rename_i n hcls
        obtain ⟨hi, hex⟩ := hex
        have ho80 : o < 80 := xq_cls_lt hcls (fun z => by cases z)
        have ha := xq_ws_at B dA h hoN ho80
        have hce : xq_ce B dA h o = .inl (dA 1, n, .inl (fun j => Int32.ofInt (h o (j : Int)))) := by unfold xq_ce; rw [hcls]
        rw [hce] at ha
        have hn2 := xq_clsn ho80 hcls
        have ead : xq_cv B aI (xR o) = .ref (B + o) := by show Value.ref (xq_ad B aI _) = _; rw [xq_ad, if_pos (by omega)]
        rw [List.map_cons, List.map_cons, ead]
        refine va_zald hx rfl hKK hR.1 o 1 ha rfl (xi_in hi (by omega)) hd ?_
        rw [xi_cl (by omega), Int.toNat_of_nonneg hi.1]
        exact xq_fin hle hex hR hS hl (xq_rv_c (hR.2.2.1 _ _) hr') hn hnx rfl
      · exact hex.elim
    · exact hex.elim
  · rename_i h999
    rw [Nat.ble_eq] at h999
    have ead : xq_cv B aI (xR o) = .ref (aI o) := by show Value.ref (xq_ad B aI _) = _; rw [xq_ad, if_neg (by omega)]
    rw [List.map_cons, List.map_cons, ead]
    split at hex
    · rename_i hb
      rw [Bool.and_eq_true, Nat.ble_eq, Nat.ble_eq] at hb
      obtain ⟨j, rfl⟩ : ∃ j, o = 1200 + j := ⟨o - 1200, by omega⟩
      rw [show 1200 + j - 1200 = j by omega] at hex
      obtain ⟨hi, hex⟩ := hex
      have hT := (hIm.1.1 j (by omega)).2.2.2
      obtain ⟨g1, g2, g3⟩ := xq_strf j (by omega)
      have g4 := xq_strn j
      rw [g1] at hT
      refine va_tb hx rfl hT hS (xi_in hi (by omega)) rfl hd ?_
      rw [xi_cl (by omega)]
      have hl2 : i.toNat < (xq_str j).length := by omega
      have hcr : -2147483648 ≤ (xq_str j).getD i.toNat 0 ∧ (xq_str j).getD i.toNat 0 ≤ 2147483647 := by
        rw [List.getD_eq_getElem?_getD, List.getElem?_eq_getElem hl2]
        have := g3 _ (List.getElem_mem hl2)
        show -2147483648 ≤ (xq_str j)[i.toNat] ∧ (xq_str j)[i.toNat] ≤ 2147483647
        omega
      refine xq_fin hle hex hR hS hl (xq_rv_c hcr hr') hn hnx ?_
      show Value.int (Int32.ofInt _) :: _ = _
      rw [g2, List.getD_eq_getElem?_getD, List.getD_eq_getElem?_getD, List.getElem?_map, List.getElem?_eq_getElem hl2]
      rfl
    · exact hex.elim

set_option maxHeartbeats 1000000 in
theorem xq_s_arraylength {Cq : Nat → List xq_V → Nat → xq_H → (Option xq_V → xq_H → Prop) → Prop} {Qx : Option xq_V → xq_H → Prop} (Cx : xq_Cx p R s m args meth c B D dA aI xs own ini rt rows nx0 nxE LV) (hle : ∀ pc L S nx h, K' pc L S nx h → xq_KW p l e R s m args below meth c B D dA aI xs rows nx0 Qf pc L S nx h)
    (hrow : xq_at rows pc = some (.arraylength, (rpc, len, nxt), ax, vs)) (hex : xq_exec Cq nxE Qx K' (some (.arraylength, (rpc, len, nxt), ax, vs)) L S nx h) : xq_KW p l e R s m args below meth c B D dA aI xs rows nx0 Qf pc L S nx h := by
  obtain ⟨hx, hown, hts, hKK, hIm, hok, hB, hRm, hini, hnE, hLV⟩ := Cx
  obtain ⟨ho, hpc⟩ := xq_row hok hrow
  simp only [xq_okb, xq_tm, xq_ts, xq_el, Bool.and_eq_true, Bool.or_eq_true, Bool.false_eq_true, false_or, decide_eq_true_eq, Nat.beq_eq] at ho
  intro H locs ls hR hS hl hr hn
  dsimp only at hpc
  rw [hpc]
  rcases S with _ | ⟨(o | o | o), S'⟩ <;> try exact False.elim hex
  obtain ⟨⟨⟨hd, hlen⟩, hnx⟩, hz⟩ := ho
  subst hlen
  have hr' := xq_rv_t hr
  unfold xq_exec at hex
  dsimp only at hex
  unfold xq_len at hex
  split at hex
  · rename_i h999
    split at hex
    · rename_i hoN
      rw [Nat.blt_eq] at hoN
      split at hex
      · rename_i t n hcls
        have ho80 : o < 80 := xq_cls_lt hcls (fun z => by cases z)
        have ha := xq_ws_at B dA h hoN ho80
        have hce : xq_ce B dA h o = .inl (dA t, n, .inl (fun j => Int32.ofInt (h o (j : Int)))) := by unfold xq_ce; rw [hcls]
        rw [hce] at ha
        have hn2 := xq_clsn ho80 hcls
        have ead : xq_cv B aI (xR o) = .ref (B + o) := by show Value.ref (xq_ad B aI _) = _; rw [xq_ad, if_pos (by omega)]
        rw [List.map_cons, ead]
        have ht : ∃ ty, ([(dA 0, FieldType.int), (dA 1, FieldType.boolean)] : List (ClassId × FieldType))[t]? = some (dA t, ty) := by
          rcases (show t = 0 ∨ t = 1 by omega) with rfl | rfl
          · exact ⟨_, rfl⟩
          · exact ⟨_, rfl⟩
        obtain ⟨ty, ht⟩ := ht
        refine va_alen hx rfl hKK hR.1 o t ha ht rfl hd ?_
        exact xq_fin hle hex hR hS hl (xq_rv_c (by show _ ∧ _; omega) hr') hn hnx rfl
      · exact hex.elim
    · exact hex.elim
  · rename_i h999
    rw [Nat.ble_eq] at h999
    have ead : xq_cv B aI (xR o) = .ref (aI o) := by show Value.ref (xq_ad B aI _) = _; rw [xq_ad, if_neg (by omega)]
    rw [List.map_cons, ead]
    split at hex
    · rename_i ho9
      rw [Nat.beq_eq] at ho9
      subst ho9
      obtain ⟨n, e1, e2, hT⟩ := hIm.2.2.2.2.2.2.1
      rw [hR.2.1, e1] at hex
      refine va_tlen hx rfl hT hS rfl hd ?_
      exact xq_fin hle hex hR hS hl (xq_rv_c (by show _ ∧ _; omega) hr') hn hnx rfl
    · split at hex
      · rename_i hb
        rw [Bool.and_eq_true, Nat.ble_eq, Nat.ble_eq] at hb
        obtain ⟨j, rfl⟩ : ∃ j, o = 1200 + j := ⟨o - 1200, by omega⟩
        rw [show 1200 + j - 1200 = j by omega] at hex
        have hT := (hIm.1.1 j (by omega)).2.2.2
        obtain ⟨g1, g2, g3⟩ := xq_strf j (by omega)
        have g4 := xq_strn j
        rw [g1] at hT
        refine va_tlen hx rfl hT hS rfl hd ?_
        exact xq_fin hle hex hR hS hl (xq_rv_c (by show _ ∧ _; omega) hr') hn hnx rfl
      · exact hex.elim

set_option maxHeartbeats 1000000 in
theorem xq_s_putfield {Cq : Nat → List xq_V → Nat → xq_H → (Option xq_V → xq_H → Prop) → Prop} {Qx : Option xq_V → xq_H → Prop} {k : Nat} (Cx : xq_Cx p R s m args meth c B D dA aI xs own ini rt rows nx0 nxE LV) (hle : ∀ pc L S nx h, K' pc L S nx h → xq_KW p l e R s m args below meth c B D dA aI xs rows nx0 Qf pc L S nx h)
    (hrow : xq_at rows pc = some (.putfield k, (rpc, len, nxt), ax, vs)) (hex : xq_exec Cq nxE Qx K' (some (.putfield k, (rpc, len, nxt), ax, vs)) L S nx h) : xq_KW p l e R s m args below meth c B D dA aI xs rows nx0 Qf pc L S nx h := by
  obtain ⟨hx, hown, hts, hKK, hIm, hok, hB, hRm, hini, hnE, hLV⟩ := Cx
  obtain ⟨ho, hpc⟩ := xq_row hok hrow
  simp only [xq_okb, xq_tm, xq_ts, xq_el, Bool.and_eq_true, Bool.or_eq_true, Bool.false_eq_true, false_or, decide_eq_true_eq, Nat.beq_eq] at ho
  intro H locs ls hR hS hl hr hn
  dsimp only at hpc
  rw [hpc]
  rcases ax with _ | ⟨kind, _ | ⟨ci, _ | ⟨fk, _ | ⟨wi, _ | ⟨fin, _ | ⟨a6, ax⟩⟩⟩⟩⟩⟩ <;> try exact False.elim hex
  all_goals rcases vs with _ | ⟨kI, _ | ⟨v2, vs⟩⟩ <;> try exact False.elim hex
  all_goals rcases S with _ | ⟨v, _ | ⟨(o | o | o), S'⟩⟩ <;> try exact False.elim hex
  obtain ⟨⟨⟨hd, hlen⟩, hnx⟩, hz⟩ := ho
  subst hlen
  have hr' := xq_rv_t (xq_rv_t hr)
  replace hz : (decide (kI = (fk : Int)) && xq_okp own k ini kind ci fk wi fin) = true := hz
  rw [Bool.and_eq_true] at hz
  obtain ⟨hkI, hz⟩ := hz
  replace hkI := of_decide_eq_true hkI
  replace hex : xq_pf kind ci fk kI nx h o v (fun h' => K' nxt L S' nx h') := hex
  unfold xq_pf at hex
  rw [hkI] at hex
  split at hex
  · rename_i ci' hcls
    split at hex
    · rename_i hb
      rw [Bool.and_eq_true, Nat.beq_eq, Nat.blt_eq] at hb
      obtain ⟨rfl, hoN⟩ := hb
      unfold xq_okp xq_okf at hz
      rw [Bool.and_eq_true] at hz
      obtain ⟨hz', hz2⟩ := hz
      split at hz'
      · rename_i C T N hcl
        rw [Bool.and_eq_true, Bool.and_eq_true, Nat.blt_eq, Nat.beq_eq] at hz'
        obtain ⟨⟨hfN, hfk⟩, hwi⟩ := hz'
        rw [hcl] at hz2
        replace hz2 : xq_okq own ini (C, T, N) fk fin = true := hz2
        obtain ⟨ty, hin, hty, hnm, hnf, hkd⟩ := xq_cls_ok hcl
        dsimp only at hin hty hnm hnf hkd
        have hci : ci < 11 := (List.getElem?_eq_some_iff.mp hcl).1
        have ho80 : o < 80 := xq_cls_lt hcls (fun z => by cases z; omega)
        have ha := xq_ws_at B dA h hoN ho80
        have hce : xq_ce B dA h o = .inr (ci, xq_fs B h o ci) := by unfold xq_ce; rw [hcls]
        rw [hce] at ha
        have hfl : fk < (xq_fs B h o ci).length := by unfold xq_fs; rw [hnf]; simpa using hfN
        have ead : xq_cv B aI (xR o) = .ref (B + o) := by show Value.ref (xq_ad B aI _) = _; rw [xq_ad, if_pos (by omega)]
        rw [List.map_cons, List.map_cons, ead]
        -- the value fits, the heap behind it
        have key : ∃ x : Int, K' nxt L S' nx (xq_u h o fk x) ∧ narrow (ty fk) (xq_cv B aI v) = xq_cv B aI v ∧ fits (ty fk) (xq_cv B aI v) = true ∧ xq_fv B (xq_u h o fk x) o ci fk = xq_cv B aI v ∧ (-2147483648 ≤ x ∧ x ≤ 2147483647) ∧ (nx = 81 → ¬ xq_fk ci fk = 2) := by
          have hu : ∀ x, xq_u h o fk x o fk = x := fun x => by simp [xq_u]
          have ref : ∀ t : Nat, t < 80 → xq_isr (ty fk) = true → narrow (ty fk) (xq_cv B aI (xR t)) = xq_cv B aI (xR t) ∧ fits (ty fk) (xq_cv B aI (xR t)) = true := by
            intro t ht hi
            cases hq : ty fk with
            | object _ => exact ⟨rfl, rfl⟩
            | array _ => exact ⟨rfl, rfl⟩
            | _ => rw [hq] at hi; cases hi
          have rfv : ∀ t : Nat, t < 80 → (kind = 2 ∨ kind = 3) → xq_fv B (xq_u h o fk ((t : Int) + 1)) o ci fk = xq_cv B aI (xR t) := by
            intro t ht hk
            unfold xq_fv
            rw [hfk, hu]
            have e : xq_cv B aI (xR t) = .ref (B + t) := by show Value.ref (xq_ad B aI _) = _; rw [xq_ad, if_pos (by omega)]
            rw [e]
            have e3 : (if ((t : Int) + 1) = 0 then Value.null else Value.ref (B + ((t : Int) + 1 - 1).toNat)) = .ref (B + t) := by
              rw [if_neg (by omega)]
              congr 2
              omega
            rcases hk with rfl | rfl <;> exact e3
          split at hex
          · rename_i x
            have hx2 : -2147483648 ≤ x ∧ x ≤ 2147483647 := xq_rv_h hr
            have ht : ty fk = .int := by
              rcases hkd fk hfN with z | z | z
              · exact z.2
              · rw [hfk] at z; exact absurd z.1 (by decide)
              · rw [hfk] at z; rcases z.1 with z | z <;> exact absurd z (by decide)
            refine ⟨x, hex, by rw [ht]; rfl, by rw [ht]; rfl, ?_, hx2, fun _ => by rw [hfk]; decide⟩
            unfold xq_fv
            rw [hfk, hu]
            rfl
          · rename_i x
            obtain ⟨h01, hex⟩ := hex
            have ht : ty fk = .boolean := by
              rcases hkd fk hfN with z | z | z
              · rw [hfk] at z; exact absurd z.1 (by decide)
              · exact z.2
              · rw [hfk] at z; rcases z.1 with z | z <;> exact absurd z (by decide)
            refine ⟨x, hex, ?_, ?_, ?_, by omega, fun _ => by rw [hfk]; decide⟩
            · rw [ht]; rcases h01 with rfl | rfl <;> rfl
            · rw [ht]; rcases h01 with rfl | rfl <;> rfl
            · unfold xq_fv
              rw [hfk, hu]
              rfl
          · rename_i t
            split at hex
            · exact hex.elim
            · rename_i h80
              obtain ⟨⟨h1, h2⟩, hex⟩ := hex
              have hi : xq_isr (ty fk) = true := by
                rcases hkd fk hfN with z | z | z
                · rw [hfk] at z; exact absurd z.1 (by decide)
                · rw [hfk] at z; exact absurd z.1 (by decide)
                · exact z.2
              exact ⟨_, hex, (ref t h2 hi).1, (ref t h2 hi).2, rfv t h2 (Or.inl rfl), by omega, fun z => by rw [z] at h80; exact absurd h80 (by decide)⟩
          · rename_i t
            obtain ⟨h2, hex⟩ := hex
            have hi : xq_isr (ty fk) = true := by
              rcases hkd fk hfN with z | z | z
              · rw [hfk] at z; exact absurd z.1 (by decide)
              · rw [hfk] at z; exact absurd z.1 (by decide)
              · exact z.2
            exact ⟨_, hex, (ref t h2 hi).1, (ref t h2 hi).2, rfv t h2 (Or.inr rfl), by omega, fun _ => by rw [hfk]; decide⟩
          · exact hex.elim
        obtain ⟨x, hex, hnar, hfit, hfv, hxr, hg2⟩ := key
        have hset : (xq_ws B dA nx h).set o (B + o, .inr (ci, (xq_fs B h o ci).set fk (xq_cv B aI v))) = xq_ws B dA nx (xq_u h o fk x) := by
          refine xq_ws_set hoN ho80 ?_ (fun o' hne => xq_u_o hne)
          unfold xq_ce
          rw [hcls]
          dsimp only
          rw [xq_fs_set hfl hfv]
        have fin1 : ∀ (H1 : Heap) (locs1 : List Loc), va_P D xq_cl ((xq_ws B dA nx h).set o (B + o, .inr (ci, (xq_fs B h o ci).set fk (xq_cv B aI v)))) H1 → va_D (fun q => B ≤ q) ((xq_ws B dA nx h).set o (B + o, .inr (ci, (xq_fs B h o ci).set fk (xq_cv B aI v)))) → va_S (fun q => B ≤ q) s.heap H1 locs1 → W p l e R s m args below meth c H1 locs1 (nx - nx0) (xq_szs nx - xq_szs nx0) Qf (F0 m (rpc + 3) ls (S'.map (xq_cv B aI))) := by
          intro H1 locs1 hP1 hD1 hS1
          rw [hset] at hP1
          refine xq_fin hle hex ⟨hP1, ?_, xq_rgh_u hR.2.2.1 _ _ hxr, fun h80 o' ci2 k2 ho' hc2 hk2 => ?_, hR.2.2.2.2⟩ hS1 hl hr' hn hnx rfl
          · rw [xq_u_o (by omega)]; exact hR.2.1
          · have hold := hR.2.2.2.1 h80 o' ci2 k2 ho' hc2 hk2
            unfold xq_u
            split
            · rename_i e1
              subst e1
              split
              · rename_i e2
                have e3 : k2 = fk := by omega
                subst e3
                have e4 : ci2 = ci := by
                  have := hc2.symm.trans hcls
                  exact Sum.inl.inj this
                subst e4
                exact absurd hk2 (hg2 h80)
              · exact hold
            · exact hold
        unfold xq_okq at hz2
        split at hz2
        · refine va_put (T := T) (N := N) (C := C) (ci := ci) hx rfl hts hin ty hty hnm hown hKK hR.1 (xq_ws_D B dA nx h) hS o ha hcl fk hfN (hts _ (xq_wd_in hwi)) (fun _ z => z) (of_decide_eq_true hz2) (hty fk hfN) hnar hfit hfl hd fin1
        · rw [Bool.and_eq_true] at hz2
          have hz3 := of_decide_eq_true hz2.1
          refine va_putF (T := T) (N := N) (C := C) (ci := ci) hx rfl hts hin ty hty hnm hown hKK hR.1 (xq_ws_D B dA nx h) hS o ha hcl fk hfN (hts _ (xq_wd_in hwi)) (fun _ z => z) hz3.1 (hini hz2.2) hz3.2 (hty fk hfN) hnar hfit hfl hd fin1
        · exact absurd hz2 (by decide)
      · exact absurd hz' (by decide)
    · exact hex.elim
  · exact hex.elim

set_option maxHeartbeats 1000000 in
theorem xq_s_iastore {Cq : Nat → List xq_V → Nat → xq_H → (Option xq_V → xq_H → Prop) → Prop} {Qx : Option xq_V → xq_H → Prop} (Cx : xq_Cx p R s m args meth c B D dA aI xs own ini rt rows nx0 nxE LV) (hle : ∀ pc L S nx h, K' pc L S nx h → xq_KW p l e R s m args below meth c B D dA aI xs rows nx0 Qf pc L S nx h)
    (hrow : xq_at rows pc = some (.iastore, (rpc, len, nxt), ax, vs)) (hex : xq_exec Cq nxE Qx K' (some (.iastore, (rpc, len, nxt), ax, vs)) L S nx h) : xq_KW p l e R s m args below meth c B D dA aI xs rows nx0 Qf pc L S nx h := by
  obtain ⟨hx, hown, hts, hKK, hIm, hok, hB, hRm, hini, hnE, hLV⟩ := Cx
  obtain ⟨ho, hpc⟩ := xq_row hok hrow
  simp only [xq_okb, xq_tm, xq_ts, xq_el, Bool.and_eq_true, Bool.or_eq_true, Bool.false_eq_true, false_or, decide_eq_true_eq, Nat.beq_eq] at ho
  intro H locs ls hR hS hl hr hn
  dsimp only at hpc
  rw [hpc]
  rcases S with _ | ⟨(v | v | v), _ | ⟨(i | i | i), _ | ⟨(o | o | o), S'⟩⟩⟩ <;> try exact False.elim hex
  obtain ⟨⟨⟨hd, hlen⟩, hnx⟩, hz⟩ := ho
  subst hlen
  have hr' := xq_rv_t (xq_rv_t (xq_rv_t hr))
  have hv : -2147483648 ≤ v ∧ v ≤ 2147483647 := xq_rv_h hr
  replace hex : xq_ast 0 nx h o i v (fun h' => K' nxt L S' nx h') := hex
  unfold xq_ast at hex
  split at hex
  · rename_i t' n hcls
    split at hex
    · rename_i hb
      rw [Bool.and_eq_true, Nat.beq_eq, Nat.blt_eq] at hb
      obtain ⟨rfl, hoN⟩ := hb
      obtain ⟨hi, hex⟩ := hex
      have ho80 : o < 80 := xq_cls_lt hcls (fun z => by cases z)
      have ha := xq_ws_at B dA h hoN ho80
      have hce : xq_ce B dA h o = .inl (dA 0, n, .inl (fun j => Int32.ofInt (h o (j : Int)))) := by unfold xq_ce; rw [hcls]
      rw [hce] at ha
      have hn2 := xq_clsn ho80 hcls
      have ead : xq_cv B aI (xR o) = .ref (B + o) := by show Value.ref (xq_ad B aI _) = _; rw [xq_ad, if_pos (by omega)]
      rw [List.map_cons, List.map_cons, List.map_cons, ead]
      refine va_iast hx rfl hKK hR.1 (xq_ws_D B dA nx h) hS o 0 ha rfl (xi_in hi (by omega)) hd (fun H1 locs1 hP1 hD1 hS1 => ?_)
      have hset : (xq_ws B dA nx h).set o (B + o, .inl (dA 0, n, .inl (upd (fun j => Int32.ofInt (h o (j : Int))) (Int32.ofInt i).toNatClampNeg (Int32.ofInt v)))) = xq_ws B dA nx (xq_u h o i v) := by
        refine xq_ws_set hoN ho80 ?_ (fun o' hne => xq_u_o hne)
        unfold xq_ce
        rw [hcls]
        dsimp only
        rw [xi_cl (by omega)]
        congr 4
        funext j
        unfold upd xq_u
        rw [if_pos rfl]
        by_cases hj : j = i.toNat
        · rw [if_pos (by omega), if_pos (by omega)]
        · rw [if_neg (by omega), if_neg (by omega)]
      rw [hset] at hP1
      refine xq_fin hle hex ⟨hP1, ?_, xq_rgh_u hR.2.2.1 _ _ hv, fun h80 o' ci2 k2 ho' hc2 hk2 => ?_, hR.2.2.2.2⟩ hS1 hl hr' hn hnx rfl
      · rw [xq_u_o (by omega)]; exact hR.2.1
      · have hne : o' ≠ o := fun z => by rw [z, hcls] at hc2; cases hc2
        rw [xq_u_o hne]
        exact hR.2.2.2.1 h80 o' ci2 k2 ho' hc2 hk2
    · exact hex.elim
  · exact hex.elim

set_option maxHeartbeats 1000000 in
theorem xq_s_bastore {Cq : Nat → List xq_V → Nat → xq_H → (Option xq_V → xq_H → Prop) → Prop} {Qx : Option xq_V → xq_H → Prop} (Cx : xq_Cx p R s m args meth c B D dA aI xs own ini rt rows nx0 nxE LV) (hle : ∀ pc L S nx h, K' pc L S nx h → xq_KW p l e R s m args below meth c B D dA aI xs rows nx0 Qf pc L S nx h)
    (hrow : xq_at rows pc = some (.bastore, (rpc, len, nxt), ax, vs)) (hex : xq_exec Cq nxE Qx K' (some (.bastore, (rpc, len, nxt), ax, vs)) L S nx h) : xq_KW p l e R s m args below meth c B D dA aI xs rows nx0 Qf pc L S nx h := by
  obtain ⟨hx, hown, hts, hKK, hIm, hok, hB, hRm, hini, hnE, hLV⟩ := Cx
  obtain ⟨ho, hpc⟩ := xq_row hok hrow
  simp only [xq_okb, xq_tm, xq_ts, xq_el, Bool.and_eq_true, Bool.or_eq_true, Bool.false_eq_true, false_or, decide_eq_true_eq, Nat.beq_eq] at ho
  intro H locs ls hR hS hl hr hn
  dsimp only at hpc
  rw [hpc]
  rcases S with _ | ⟨(v | v | v), _ | ⟨(i | i | i), _ | ⟨(o | o | o), S'⟩⟩⟩ <;> try exact False.elim hex
  obtain ⟨⟨⟨hd, hlen⟩, hnx⟩, hz⟩ := ho
  subst hlen
  have hr' := xq_rv_t (xq_rv_t (xq_rv_t hr))
  have hv : -2147483648 ≤ v ∧ v ≤ 2147483647 := xq_rv_h hr
  replace hex : (v = 0 ∨ v = 1) ∧ xq_ast 1 nx h o i v (fun h' => K' nxt L S' nx h') := hex
  obtain ⟨h01, hex⟩ := hex
  have hnb : vp_nar .boolean (Int32.ofInt v) = Int32.ofInt v := by rcases h01 with rfl | rfl <;> rfl
  unfold xq_ast at hex
  split at hex
  · rename_i t' n hcls
    split at hex
    · rename_i hb
      rw [Bool.and_eq_true, Nat.beq_eq, Nat.blt_eq] at hb
      obtain ⟨rfl, hoN⟩ := hb
      obtain ⟨hi, hex⟩ := hex
      have ho80 : o < 80 := xq_cls_lt hcls (fun z => by cases z)
      have ha := xq_ws_at B dA h hoN ho80
      have hce : xq_ce B dA h o = .inl (dA 1, n, .inl (fun j => Int32.ofInt (h o (j : Int)))) := by unfold xq_ce; rw [hcls]
      rw [hce] at ha
      have hn2 := xq_clsn ho80 hcls
      have ead : xq_cv B aI (xR o) = .ref (B + o) := by show Value.ref (xq_ad B aI _) = _; rw [xq_ad, if_pos (by omega)]
      rw [List.map_cons, List.map_cons, List.map_cons, ead]
      refine va_zast hx rfl hKK hR.1 (xq_ws_D B dA nx h) hS o 1 ha rfl (xi_in hi (by omega)) hd (fun H1 locs1 hP1 hD1 hS1 => ?_)
      have hset : (xq_ws B dA nx h).set o (B + o, .inl (dA 1, n, .inl (upd (fun j => Int32.ofInt (h o (j : Int))) (Int32.ofInt i).toNatClampNeg (vp_nar .boolean (Int32.ofInt v))))) = xq_ws B dA nx (xq_u h o i v) := by
        refine xq_ws_set hoN ho80 ?_ (fun o' hne => xq_u_o hne)
        unfold xq_ce
        rw [hcls]
        dsimp only
        rw [xi_cl (by omega), hnb]
        congr 4
        funext j
        unfold upd xq_u
        rw [if_pos rfl]
        by_cases hj : j = i.toNat
        · rw [if_pos (by omega), if_pos (by omega)]
        · rw [if_neg (by omega), if_neg (by omega)]
      rw [hset] at hP1
      refine xq_fin hle hex ⟨hP1, ?_, xq_rgh_u hR.2.2.1 _ _ hv, fun h80 o' ci2 k2 ho' hc2 hk2 => ?_, hR.2.2.2.2⟩ hS1 hl hr' hn hnx rfl
      · rw [xq_u_o (by omega)]; exact hR.2.1
      · have hne : o' ≠ o := fun z => by rw [z, hcls] at hc2; cases hc2
        rw [xq_u_o hne]
        exact hR.2.2.2.1 h80 o' ci2 k2 ho' hc2 hk2
    · exact hex.elim
  · exact hex.elim
end XQ
end
section
theorem xq_szA : ∀ o : Fin 80, (match xq_cls o.val with | .inr (_, n) => Nat.beq (xq_szl.getD o.val 0) n | .inl ci => Nat.beq (xq_szl.getD o.val 0) (xq_nfl.getD ci 0)) = true := by decide +kernel
theorem xq_sz_a {o t n : Nat} (ho : o < 80) (h : xq_cls o = .inr (t, n)) : xq_szl.getD o 0 = n := by
  have := xq_szA ⟨o, ho⟩
  dsimp only at this
  rw [h] at this
  simpa [Nat.beq_eq] using this
theorem xq_sz_c {o ci : Nat} (ho : o < 80) (h : xq_cls o = .inl ci) : xq_szl.getD o 0 = xq_nfl.getD ci 0 := by
  have := xq_szA ⟨o, ho⟩
  dsimp only at this
  rw [h] at this
  simpa [Nat.beq_eq] using this
theorem xq_sw_spec {K : Nat → Prop} {d : Nat} {x : Int} : ∀ (ts : List Nat) (vs : List Int), ts.length = vs.length → xq_sw K d x ts vs → (∃ (i : Nat) (t : Nat) (v : Int), ts[i]? = some t ∧ vs[i]? = some v ∧ x = v ∧ K t ∧ ∀ j, j < i → vs[j]? ≠ some x) ∨ (K d ∧ ∀ v ∈ vs, x ≠ v)
  | [], [], _, h => Or.inr ⟨h, fun v hv => by cases hv⟩
  | t :: ts, v :: vs, hl, h => by
    by_cases hx : x = v
    · exact Or.inl ⟨0, t, v, rfl, rfl, hx, h.1 hx, fun j hj => by omega⟩
    · rcases xq_sw_spec ts vs (by simpa using hl) (h.2 hx) with ⟨i, t', v', h1, h2, h3, h4, h5⟩ | ⟨h1, h2⟩
      · refine Or.inl ⟨i + 1, t', v', h1, h2, h3, h4, fun j hj => ?_⟩
        rcases j with _ | j
        · intro z
          exact hx (Option.some.inj z).symm
        · exact h5 j (by omega)
      · refine Or.inr ⟨h1, fun w hw => ?_⟩
        rcases List.mem_cons.mp hw with rfl | hw
        · exact hx
        · exact h2 w hw
theorem xq_off_none {d k : Int} : ∀ (l : List (Int × Int)), (∀ q ∈ l, k ≠ q.1) → Op.lookupswitch.offset l d k = d
  | [], _ => rfl
  | (a, o) :: l, h => by
    rw [Op.lookupswitch.offset_cons, if_neg (fun z => h (a, o) List.mem_cons_self z.symm)]
    exact xq_off_none l (fun q hq => h q (List.mem_cons_of_mem _ hq))
theorem xq_off_some {d k : Int} : ∀ (l : List (Int × Int)) (i : Nat) (q : Int × Int), l[i]? = some q → q.1 = k → (∀ j, j < i → (l.map (fun q => q.1))[j]? ≠ some k) → Op.lookupswitch.offset l d k = q.2
  | [], i, q, h, _, _ => by simp at h
  | (a, o) :: l, 0, q, h, hk, _ => by
    cases h
    rw [Op.lookupswitch.offset_cons, if_pos hk]
  | (a, o) :: l, i + 1, q, h, hk, hj => by
    rw [Op.lookupswitch.offset_cons, if_neg (fun z => hj 0 (by omega) (by rw [← z]; rfl))]
    exact xq_off_some l i q h hk (fun j hj' => hj (j + 1) (by omega))
section XQ2
variable {p : Program} {l : Launch} {e : Env} {R : Room} {s : State} {m : MethodId} {args : Array Value} {below : List Frame} {meth : Method} {c : Code} {B : Nat} {D : va_G} {dA : Nat → ClassId} {aI : Nat → Nat} {xs : Int → Int} {own : String} {ini : Bool} {rt : Option FieldType} {rows : List (List xq_Row)} {nx0 nxE LV : Nat} {Qf : State → Prop}
variable {K' : xq_KT} {pc : Nat} {L : xq_L} {S : List xq_V} {nx : Nat} {h : xq_H} {rpc len nxt : Nat} {ax : List Nat} {vs : List Int}
set_option maxHeartbeats 1000000 in
theorem xq_s_new {Cq : Nat → List xq_V → Nat → xq_H → (Option xq_V → xq_H → Prop) → Prop} {Qx : Option xq_V → xq_H → Prop} {k : Nat} (Cx : xq_Cx p R s m args meth c B D dA aI xs own ini rt rows nx0 nxE LV) (hle : ∀ pc L S nx h, K' pc L S nx h → xq_KW p l e R s m args below meth c B D dA aI xs rows nx0 Qf pc L S nx h)
    (hrow : xq_at rows pc = some (.new k, (rpc, len, nxt), ax, vs)) (hex : xq_exec Cq nxE Qx K' (some (.new k, (rpc, len, nxt), ax, vs)) L S nx h) : xq_KW p l e R s m args below meth c B D dA aI xs rows nx0 Qf pc L S nx h := by
  obtain ⟨hx, hown, hts, hKK, hIm, hok, hB, hRm, hini, hnE, hLV⟩ := Cx
  obtain ⟨ho, hpc⟩ := xq_row hok hrow
  simp only [xq_okb, xq_tm, xq_ts, xq_el, Bool.and_eq_true, Bool.or_eq_true, Bool.false_eq_true, false_or, decide_eq_true_eq, Nat.beq_eq] at ho
  intro H locs ls hR hS hl hr hn
  dsimp only at hpc
  rw [hpc]
  rcases ax with _ | ⟨ci, _ | ⟨w1, _ | ⟨w2, _ | ⟨w3, _ | ⟨a5, ax⟩⟩⟩⟩⟩ <;> try exact False.elim hex
  obtain ⟨⟨⟨hd, hlen⟩, hnx⟩, hz⟩ := ho
  subst hlen
  unfold xq_exec at hex
  dsimp only at hex
  split at hex
  · rename_i ci' hcls
    split at hex
    · rename_i hb
      rw [Bool.and_eq_true, Nat.beq_eq, Nat.blt_eq] at hb
      obtain ⟨rfl, hnE2⟩ := hb
      dsimp only at hz
      split at hz
      · rename_i C T N hcl
        rw [Bool.and_eq_true, Bool.and_eq_true] at hz
        obtain ⟨⟨hw1, hw2⟩, hw3⟩ := hz
        obtain ⟨ty, hin, hty, hnm, hnf, hkd⟩ := xq_cls_ok hcl
        dsimp only at hin hty hnm hnf hkd
        have hci : ci < 11 := (List.getElem?_eq_some_iff.mp hcl).1
        have h80 : nx < 80 := xq_cls_lt hcls (fun z => by cases z; omega)
        have hN : xq_szl.getD nx 0 = N := (xq_sz_c h80 hcls).trans hnf
        have m1 := xq_szs_le (show nx0 ≤ nx by omega)
        have m2 := xq_szs_le (show nx + 1 ≤ nxE by omega)
        have m3 : xq_szs (nx + 1) = xq_szs nx + N := by rw [← hN]; rfl
        have hszs : xq_szs nx - xq_szs nx0 + N = xq_szs (nx + 1) - xq_szs nx0 := by omega
        have hce : xq_ce B dA (xq_z h nx) nx = .inr (ci, xq_fs B (xq_z h nx) nx ci) := by unfold xq_ce; rw [hcls]
        refine va_new (T := T) (N := N) (C := C) (ci := ci) (fs := xq_fs B (xq_z h nx) nx ci) hx rfl hts hin ty hty hown (hts _ (xq_wd_in hw1)) (hts _ (xq_wd_in hw2)) (hts _ (xq_wd_in hw3)) hKK hR.1 (xq_ws_D B dA nx h) hS (fun q hq => Nat.le_trans hB.1 hq) hcl ?_ (by omega) (by omega) hd (fun q H1 hP1 hD1 hS1 => ?_)
        · intro j hj
          have e0 : xq_z h nx nx j = 0 := by simp [xq_z]
          show defaultValue (ty j) = (xq_fs B (xq_z h nx) nx ci).getD j .null
          unfold xq_fs
          rw [hnf, List.getD_eq_getElem?_getD, List.getElem?_map, List.getElem?_range hj]
          show defaultValue (ty j) = xq_fv B (xq_z h nx) nx ci j
          unfold xq_fv
          rw [e0]
          rcases hkd j hj with z | z | z
          · rw [z.1, z.2]; rfl
          · rw [z.1, z.2]; rfl
          · have e1 : defaultValue (ty j) = .null := by
              have hi := z.2
              cases hq : ty j with
              | object _ => rfl
              | array _ => rfl
              | _ => rw [hq] at hi; cases hi
            rw [e1]
            rcases z.1 with z | z <;> rw [z] <;> rfl
        intro T hT X
        have hup := X.same.2.2.1
        rw [show (T.setVm s.vm).heap.size = T.heap.size from rfl, hT] at hup
        have hqP := (hP1 (xq_ws B dA nx h).length _ (by rw [List.getElem?_append_right (Nat.le_refl _), Nat.sub_self]; rfl)).lt
        dsimp only at hqP
        have hqB : B ≤ q := hD1.2 (xq_ws B dA nx h).length _ (by rw [List.getElem?_append_right (Nat.le_refl _), Nat.sub_self]; rfl)
        have hs0 := hB.2 (by omega)
        have hq : q = B + nx := by
          rcases Nat.lt_or_ge q (B + nx) with z | z
          · exfalso
            have hol : q - B < (xq_ws B dA nx h).length := (List.getElem?_eq_some_iff.mp (xq_ws_at B dA h (o := q - B) (nx := nx) (by omega) (by omega))).1
            have e1 : (xq_ws B dA nx h ++ [(q, .inr (ci, xq_fs B (xq_z h nx) nx ci))])[q - B]? = some (B + (q - B), xq_ce B dA h (q - B)) := by
              rw [List.getElem?_append_left hol, xq_ws_at B dA h (by omega) (by omega)]
            have e2 : (xq_ws B dA nx h ++ [(q, .inr (ci, xq_fs B (xq_z h nx) nx ci))])[(xq_ws B dA nx h).length]? = some (q, .inr (ci, xq_fs B (xq_z h nx) nx ci)) := by
              rw [List.getElem?_append_right (Nat.le_refl _), Nat.sub_self]; rfl
            have := hD1.1 _ _ _ _ e1 e2 (by show B + (q - B) = q; omega)
            omega
          · omega
        subst hq
        refine (?_ : W p l e R s m args below meth c H1 locs (nx - nx0 + 1) (xq_szs nx - xq_szs nx0 + N) Qf _) T hT X
        rw [show nx - nx0 + 1 = nx + 1 - nx0 by omega, hszs]

        rw [xq_ws_push h80 hce] at hP1
        refine xq_fin hle hex ⟨hP1, ?_, xq_rgh_z hR.2.2.1 _, fun z => by omega, by omega⟩ hS1 hl (xq_rv_c trivial hr) (by omega) hnx ?_
        · show xq_z h nx 999 = xs
          rw [← hR.2.1]
          funext j
          simp [xq_z]
          omega
        · show Value.ref (xq_ad B aI nx) :: _ = _
          rw [xq_ad, if_pos (by omega)]
      · exact absurd hz (by decide)
    · exact hex.elim
  · exact hex.elim

set_option maxHeartbeats 1000000 in
theorem xq_s_newarray {Cq : Nat → List xq_V → Nat → xq_H → (Option xq_V → xq_H → Prop) → Prop} {Qx : Option xq_V → xq_H → Prop} {k : ArrayType} (Cx : xq_Cx p R s m args meth c B D dA aI xs own ini rt rows nx0 nxE LV) (hle : ∀ pc L S nx h, K' pc L S nx h → xq_KW p l e R s m args below meth c B D dA aI xs rows nx0 Qf pc L S nx h)
    (hrow : xq_at rows pc = some (.newarray k, (rpc, len, nxt), ax, vs)) (hex : xq_exec Cq nxE Qx K' (some (.newarray k, (rpc, len, nxt), ax, vs)) L S nx h) : xq_KW p l e R s m args below meth c B D dA aI xs rows nx0 Qf pc L S nx h := by
  obtain ⟨hx, hown, hts, hKK, hIm, hok, hB, hRm, hini, hnE, hLV⟩ := Cx
  obtain ⟨ho, hpc⟩ := xq_row hok hrow
  simp only [xq_okb, xq_tm, xq_ts, xq_el, Bool.and_eq_true, Bool.or_eq_true, Bool.false_eq_true, false_or, decide_eq_true_eq, Nat.beq_eq] at ho
  intro H locs ls hR hS hl hr hn
  dsimp only at hpc
  rw [hpc]
  rcases ax with _ | ⟨t, _ | ⟨a5, ax⟩⟩ <;> try exact False.elim hex
  rcases S with _ | ⟨(a | a | a), S'⟩ <;> try exact False.elim hex
  obtain ⟨⟨⟨hd, hlen⟩, hnx⟩, hz⟩ := ho
  subst hlen
  unfold xq_exec at hex
  dsimp only at hex
  split at hex
  · rename_i t' n' hcls
    split at hex
    · rename_i hb
      rw [Bool.and_eq_true, Nat.beq_eq, Nat.blt_eq] at hb
      obtain ⟨rfl, hnE2⟩ := hb
      obtain ⟨rfl, hex⟩ := hex
      have h80 : nx < 80 := xq_cls_lt hcls (fun z => by cases z)
      have hn2 := xq_clsn h80 hcls
      have hN : xq_szl.getD nx 0 = n' := xq_sz_a h80 hcls
      have m1 := xq_szs_le (show nx0 ≤ nx by omega)
      have m2 := xq_szs_le (show nx + 1 ≤ nxE by omega)
      have m3 : xq_szs (nx + 1) = xq_szs nx + n' := by rw [← hN]; rfl
      have hszs : xq_szs nx - xq_szs nx0 + n' = xq_szs (nx + 1) - xq_szs nx0 := by omega
      have hce : xq_ce B dA (xq_z h nx) nx = .inl (dA t, n', .inl (fun j => Int32.ofInt (xq_z h nx nx (j : Int)))) := by unfold xq_ce; rw [hcls]
      have hce0 : (fun j : Nat => Int32.ofInt (xq_z h nx nx (j : Int))) = fun _ => 0 := by
        funext j
        simp [xq_z]
      rw [hce0] at hce
      have hkt : ∃ ty, newarray.typeOf k = ty ∧ (Jvm.Cond.arrayClass (newarray.typeOf k)).before args s = true ∧ defaultValue ty = .int 0 ∧ componentBytes ty ≤ 8 ∧ (∀ cA : ClassId, va_RA s cA ty → cA = dA t) := by
        rcases (show t = 0 ∨ t = 1 by omega) with rfl | rfl
        · have hk : k = .int := of_decide_eq_true hz
          subst hk
          refine ⟨.int, rfl, hts _ (by decide +kernel), rfl, by decide, fun cA hcA => ?_⟩
          have h2 := (hKK.2 0 _ rfl).2
          exact Option.some.inj (Eq.trans (Eq.symm hcA) h2)
        · have hk : k = .boolean := of_decide_eq_true hz
          subst hk
          refine ⟨.boolean, rfl, hts _ (by decide +kernel), rfl, by decide, fun cA hcA => ?_⟩
          have h2 := (hKK.2 1 _ rfl).2
          exact Option.some.inj (Eq.trans (Eq.symm hcA) h2)
      obtain ⟨ty, hty, hac, hdv, hcb, huq⟩ := hkt
      refine va_newa (N' := n') (a0 := (n', .inl (fun _ => 0))) hx rfl hac hty hKK hR.1 (xq_ws_D B dA nx h) hS (fun q hq => Nat.le_trans hB.1 hq) (fun cA => ?_) ?_ ?_ ?_ (by omega) (by omega) hd (fun q cA H1 hK1 hP1 hD1 hS1 => ?_)
      · rw [hdv]; rfl
      · rw [Int32.lt_iff_toInt_lt, xi_of (by omega)]
        show ¬ ((n' : Int) < 0)
        omega
      · rw [xi_cl (by omega)]; rfl
      · calc n' * componentBytes ty ≤ 1000 * 8 := Nat.mul_le_mul (by omega) hcb
          _ ≤ 536870912 := by decide
      have hcA : cA = dA t := huq cA (hK1.2 2 _ rfl).2
      subst hcA
      intro T hT X
      have hup := X.same.2.2.1
      rw [show (T.setVm s.vm).heap.size = T.heap.size from rfl, hT] at hup
      have hqP := (hP1 (xq_ws B dA nx h).length _ (by rw [List.getElem?_append_right (Nat.le_refl _), Nat.sub_self]; rfl)).lt
      dsimp only at hqP
      have hqB : B ≤ q := hD1.2 (xq_ws B dA nx h).length _ (by rw [List.getElem?_append_right (Nat.le_refl _), Nat.sub_self]; rfl)
      have hs0 := hB.2 (by omega)
      have hq : q = B + nx := by
        rcases Nat.lt_or_ge q (B + nx) with z | z
        · exfalso
          have hol : q - B < (xq_ws B dA nx h).length := (List.getElem?_eq_some_iff.mp (xq_ws_at B dA h (o := q - B) (nx := nx) (by omega) (by omega))).1
          have e1 : (xq_ws B dA nx h ++ [(q, .inl (dA t, n', .inl (fun _ => 0)))])[q - B]? = some (B + (q - B), xq_ce B dA h (q - B)) := by
            rw [List.getElem?_append_left hol, xq_ws_at B dA h (by omega) (by omega)]
          have e2 : (xq_ws B dA nx h ++ [(q, .inl (dA t, n', .inl (fun _ => 0)))])[(xq_ws B dA nx h).length]? = some (q, .inl (dA t, n', .inl (fun _ => 0))) := by
            rw [List.getElem?_append_right (Nat.le_refl _), Nat.sub_self]; rfl
          have := hD1.1 _ _ _ _ e1 e2 (by show B + (q - B) = q; omega)
          omega
        · omega
      subst hq
      refine (?_ : W p l e R s m args below meth c H1 locs (nx - nx0 + 1) (xq_szs nx - xq_szs nx0 + n') Qf _) T hT X
      rw [show nx - nx0 + 1 = nx + 1 - nx0 by omega, hszs]

      rw [xq_ws_push h80 hce] at hP1
      refine xq_fin hle hex ⟨hP1, ?_, xq_rgh_z hR.2.2.1 _, fun z => by omega, by omega⟩ hS1 hl (xq_rv_c trivial (xq_rv_t hr)) (by omega) hnx ?_
      · show xq_z h nx 999 = xs
        rw [← hR.2.1]
        funext j
        simp [xq_z]
        omega
      · show Value.ref (xq_ad B aI nx) :: _ = _
        rw [xq_ad, if_pos (by omega)]
    · exact hex.elim
  · exact hex.elim

set_option maxHeartbeats 1000000 in
theorem xq_s_tableswitch {Cq : Nat → List xq_V → Nat → xq_H → (Option xq_V → xq_H → Prop) → Prop} {Qx : Option xq_V → xq_H → Prop} {dflt lo hi : Int} {offs : Array Int} (Cx : xq_Cx p R s m args meth c B D dA aI xs own ini rt rows nx0 nxE LV) (hle : ∀ pc L S nx h, K' pc L S nx h → xq_KW p l e R s m args below meth c B D dA aI xs rows nx0 Qf pc L S nx h)
    (hrow : xq_at rows pc = some (.tableswitch dflt lo hi offs, (rpc, len, nxt), ax, vs)) (hex : xq_exec Cq nxE Qx K' (some (.tableswitch dflt lo hi offs, (rpc, len, nxt), ax, vs)) L S nx h) : xq_KW p l e R s m args below meth c B D dA aI xs rows nx0 Qf pc L S nx h := by
  obtain ⟨hx, hown, hts, hKK, hIm, hok, hB, hRm, hini, hnE, hLV⟩ := Cx
  obtain ⟨ho, hpc⟩ := xq_row hok hrow
  simp only [xq_okb, xq_tm, xq_ts, xq_el, Bool.and_eq_true, Bool.or_eq_true, Bool.false_eq_true, false_or, decide_eq_true_eq, Nat.beq_eq] at ho
  intro H locs ls hR hS hl hr hn
  dsimp only at hpc
  rw [hpc]
  rcases ax with _ | ⟨d, ts⟩ <;> try exact False.elim hex
  rcases S with _ | ⟨(a | a | a), S'⟩ <;> try exact False.elim hex
  have ha : -2147483648 ≤ a ∧ a ≤ 2147483647 := xq_rv_h hr
  have hr' := xq_rv_t hr
  obtain ⟨⟨⟨hd, -⟩, -⟩, hz⟩ := ho
  obtain ⟨z1, z2, z3, z4⟩ := of_decide_eq_true hz
  replace hex : xq_sw (fun t => K' t L S' nx h) d a ts vs := hex
  have hlen : ts.length = vs.length := by
    have e1 := congrArg List.length z2
    have e2 := congrArg List.length z3
    simp at e1 e2
    omega
  rcases xq_sw_spec ts vs hlen hex with ⟨i, t, v, h1, h2, h3, h4, h5⟩ | ⟨h1, h2⟩
  · subst h3
    have hi : i < offs.size := by
      have := (List.getElem?_eq_some_iff.mp h2).1
      rw [z3] at this
      simpa using this
    rw [z3, List.getElem?_map, List.getElem?_range hi] at h2
    have hv : lo + (i : Int) = a := Option.some.inj h2
    have h6 := congrArg (fun l => l[i]?) z2
    rw [List.getElem?_map, h1, List.getElem?_map, Array.getElem?_toList, Array.getElem?_eq_getElem hi] at h6
    have h7 : (xq_rp rows t : Int) = (rpc : Int) + offs[i] := Option.some.inj h6
    refine lv_tableIn (off := offs[i]) (tgt := xq_rp rows t) hx rfl hd ?_ ?_ ?_ h7.symm ?_
    · rw [xi_of ha]; omega
    · rw [xi_of ha]; omega
    · rw [xi_of ha, show (a - lo).toNat = i by omega, Array.getElem?_eq_getElem hi]
    · exact xq_fin hle h4 hR hS hl hr' hn rfl rfl
  · refine lv_tableOut (tgt := xq_rp rows d) hx rfl hd ?_ z1 ?_
    · rw [xi_of ha]
      rcases Int.lt_or_le a lo with q | q
      · exact Or.inl q
      · rcases Int.lt_or_le hi a with q2 | q2
        · exact Or.inr q2
        · exfalso
          have hj : (a - lo).toNat < offs.size := by omega
          refine h2 a ?_ rfl
          rw [z3]
          exact List.mem_map.mpr ⟨(a - lo).toNat, List.mem_range.mpr hj, by omega⟩
    · exact xq_fin hle h1 hR hS hl hr' hn rfl rfl

set_option maxHeartbeats 1000000 in
theorem xq_s_lookupswitch {Cq : Nat → List xq_V → Nat → xq_H → (Option xq_V → xq_H → Prop) → Prop} {Qx : Option xq_V → xq_H → Prop} {dflt : Int} {ps : Array (Int × Int)} (Cx : xq_Cx p R s m args meth c B D dA aI xs own ini rt rows nx0 nxE LV) (hle : ∀ pc L S nx h, K' pc L S nx h → xq_KW p l e R s m args below meth c B D dA aI xs rows nx0 Qf pc L S nx h)
    (hrow : xq_at rows pc = some (.lookupswitch dflt ps, (rpc, len, nxt), ax, vs)) (hex : xq_exec Cq nxE Qx K' (some (.lookupswitch dflt ps, (rpc, len, nxt), ax, vs)) L S nx h) : xq_KW p l e R s m args below meth c B D dA aI xs rows nx0 Qf pc L S nx h := by
  obtain ⟨hx, hown, hts, hKK, hIm, hok, hB, hRm, hini, hnE, hLV⟩ := Cx
  obtain ⟨ho, hpc⟩ := xq_row hok hrow
  simp only [xq_okb, xq_tm, xq_ts, xq_el, Bool.and_eq_true, Bool.or_eq_true, Bool.false_eq_true, false_or, decide_eq_true_eq, Nat.beq_eq] at ho
  intro H locs ls hR hS hl hr hn
  dsimp only at hpc
  rw [hpc]
  rcases ax with _ | ⟨d, ts⟩ <;> try exact False.elim hex
  rcases S with _ | ⟨(a | a | a), S'⟩ <;> try exact False.elim hex
  have ha : -2147483648 ≤ a ∧ a ≤ 2147483647 := xq_rv_h hr
  have hr' := xq_rv_t hr
  obtain ⟨⟨⟨hd, -⟩, -⟩, hz⟩ := ho
  obtain ⟨z1, z2, z3, z4⟩ := of_decide_eq_true hz
  replace hex : xq_sw (fun t => K' t L S' nx h) d a ts vs := hex
  have hlen : ts.length = vs.length := by
    have e1 := congrArg List.length z2
    have e2 := congrArg List.length z3
    simp at e1 e2
    omega
  rcases xq_sw_spec ts vs hlen hex with ⟨i, t, v, h1, h2, h3, h4, h5⟩ | ⟨h1, h2⟩
  · subst h3
    rw [z3, List.getElem?_map] at h2
    obtain ⟨q, hq1, hq2⟩ := Option.map_eq_some_iff.mp h2
    have h6 := congrArg (fun l => l[i]?) z2
    rw [List.getElem?_map, h1, List.getElem?_map, hq1] at h6
    have h7 : (xq_rp rows t : Int) = (rpc : Int) + q.2 := Option.some.inj h6
    refine lv_lookup (off := q.2) (tgt := xq_rp rows t) hx rfl hd z4 ?_ h7.symm ?_
    · rw [xi_of ha]
      exact xq_off_some _ i q hq1 hq2 (fun j hj => by rw [← z3]; exact h5 j hj)
    · exact xq_fin hle h4 hR hS hl hr' hn rfl rfl
  · refine lv_lookup (off := dflt) (tgt := xq_rp rows d) hx rfl hd z4 ?_ z1 ?_
    · rw [xi_of ha]
      refine xq_off_none _ (fun q hq => ?_)
      refine h2 q.1 ?_
      rw [z3]
      exact List.mem_map.mpr ⟨q, hq, rfl⟩
    · exact xq_fin hle h1 hR hS hl hr' hn rfl rfl
end XQ2
end
section
theorem xq_size {p : Program} {l : Launch} {e : Env} {R : Room} {s : State} {m : MethodId} {args : Array Value} {below : List Frame} {meth : Method} {c : Code} {T : State} {locs : List Loc} {slots B nx nx0 : Nat} {D : va_G} {dA : Nat → ClassId} {xs : Int → Int} {h : xq_H} (X : Stand p l e R s m args below meth c T locs (nx - nx0) slots) (hR : xq_Rep B D dA xs nx h T.heap) (hB : B ≤ s.heap.size ∧ (nx0 < 80 → s.heap.size = B + nx0)) (hn : nx0 ≤ nx) : B ≤ T.heap.size ∧ (nx < 80 → T.heap.size = B + nx) := by
  have h1 := X.same.2.1
  have h2 := X.same.2.2.1
  rw [show (T.setVm s.vm).heap.size = T.heap.size from rfl] at h1 h2
  refine ⟨by omega, fun h80 => ?_⟩
  have h3 := hB.2 (by omega)
  rcases Nat.eq_or_lt_of_le hn with q | q
  · omega
  · have h4 := (hR.1 (nx - 1) _ (xq_ws_at B dA h (o := nx - 1) (by omega) (by omega))).lt
    dsimp only at h4
    omega
/-- behind a call -/
theorem xq_back {p : Program} {l : Launch} {e : Env} {R : Room} {s : State} {m : MethodId} {args : Array Value} {below : List Frame} {meth : Method} {c : Code} {B : Nat} {D : va_G} {dA : Nat → ClassId} {aI : Nat → Nat} {xs : Int → Int} {rows : List (List xq_Row)} {nx0 : Nat} {Qf : State → Prop} {K' : xq_KT} {L : xq_L} {S' : List xq_V} {nx : Nat} {h : xq_H} {rpc nxt bc : Nat}
    (hle : ∀ pc L S nx h, K' pc L S nx h → xq_KW p l e R s m args below meth c B D dA aI xs rows nx0 Qf pc L S nx h) {H : Heap} {locs : List Loc} {ls : Array Slot} {st0 : List Value} {a : Array Value}
    (hrun : va_Run p l e R s m args below meth c H locs (nx - nx0) (xq_szs nx - xq_szs nx0) bc (xq_szs (nx + bc) - xq_szs nx) (F0 m rpc ls st0) (S'.map (xq_cv B aI)) (xq_Qc B D dA aI xs (nx + bc) (fun v h' => match v with | none => K' nxt L S' (nx + bc) h' | some w => K' nxt L (w :: S') (nx + bc) h') a) (fun q => B ≤ q))
    (hR : xq_Rep B D dA xs nx h H) (hS : va_S (fun q => B ≤ q) s.heap H locs) (hl : xq_lv B aI ls c.maxLocals L) (hr : ∀ v ∈ S', xq_rv v) (hn : nx0 ≤ nx) (hnx : xq_rp rows nxt = rpc + 3) : W p l e R s m args below meth c H locs (nx - nx0) (xq_szs nx - xq_szs nx0) Qf (F0 m rpc ls st0) := by
  intro T hT X
  obtain ⟨v, st₀, t, T', L1, h0, X', hL, e1, e2, ⟨⟨w, h', hv, hrv, hq, hRep⟩, hz, hk⟩, st⟩ := hrun T hT X
  rw [h0] at hz hk
  have hv2 : v = w.map (xq_cv B aI) := by injection hv
  subst hv2
  have m1 := xq_szs_le hn
  have m2 := xq_szs_le (show nx ≤ nx + bc by omega)
  rw [show nx - nx0 + bc = nx + bc - nx0 by omega, show xq_szs nx - xq_szs nx0 + (xq_szs (nx + bc) - xq_szs nx) = xq_szs (nx + bc) - xq_szs nx0 by omega] at X'
  have hS' : va_S (fun q => B ≤ q) s.heap T'.heap (locs ++ L1) := ⟨Nat.le_trans hS.1 (by rw [e1]; exact hz), fun q h1 h2 => by rw [e1, hk q (Nat.lt_of_lt_of_le h1 hS.1) h2]; exact hS.2.1 q h1 h2, fun q hq => by
    rcases List.mem_append.mp hq with h | h
    · exact hS.2.2 q h
    · exact hL q h⟩
  rw [← e1] at hRep
  cases w with
  | none =>
    have k := hle _ _ _ _ _ hq T'.heap (locs ++ L1) ls hRep hS' hl hr (by omega)
    rw [hnx] at k
    obtain ⟨t2, a1, b1⟩ := k T' rfl X'
    exact ⟨t2, st t2 a1, b1⟩
  | some w =>
    have k := hle _ _ _ _ _ hq T'.heap (locs ++ L1) ls hRep hS' hl (xq_rv_c (hrv w rfl) hr) (by omega)
    rw [hnx] at k
    obtain ⟨t2, a1, b1⟩ := k T' rfl X'
    exact ⟨t2, st t2 a1, b1⟩
theorem xq_sg_eq (y : Nat) : xq_sg y = ((xq_sg y).1, (xq_sg y).2.1, (xq_sg y).2.2.1, (xq_sg y).2.2.2.1, (xq_sg y).2.2.2.2) := rfl
theorem xq_cn {R : Room} {s : State} {args : Array Value} {own host : String} {index maxL mc ms : Nat} {y : MethodName} {bytes : ByteArray} {ret : Option FieldType} {Ts ws : List Jvm.Cond} {rm : Room} (n : Nat) (ht : ∀ w ∈ Ts, w.before args s = true) (hG : GoodIn Ts (Jvm.Cond.code y bytes maxL ret :: ws)) (hrc : rm.cells = mc) (hrs : rm.slots = ms) (hl : (Jvm.Cond.methodLinkNest own index y host).before args s = true) (hini : (Jvm.Cond.initialized y.cls).before args s = true)
    (hd : y.cls ≠ "java/lang/invoke/MethodHandle" ∧ y.cls ≠ "java/lang/invoke/VarHandle" ∧ (parseMethodDescriptor y.desc).map (fun d => d.parameters.length) = some n) (hR : rm.frames + 1 ≤ R.frames ∧ 8 + (maxL + 11) + rm.locals ≤ R.locals) : va_CN R s args own index y host bytes maxL ret (Jvm.Cond.code y bytes maxL ret :: ws) rm mc ms n := by
  refine ⟨⟨hrc, hrs, hR.1, hR.2, pay_in ht hG, List.mem_cons_self⟩, ht _ (hG _ List.mem_cons_self).1, hini, ⟨hd.1, hd.2.1⟩, fun sig h => ?_, hl⟩
  have h2 := hd.2.2
  rw [h] at h2
  exact (Option.some.inj h2).symm
section XQ3
variable {p : Program} {l : Launch} {e : Env} {R : Room} {s : State} {m : MethodId} {args : Array Value} {below : List Frame} {meth : Method} {c : Code} {B : Nat} {D : va_G} {dA : Nat → ClassId} {aI : Nat → Nat} {xs : Int → Int} {own : String} {ini : Bool} {rt : Option FieldType} {rows : List (List xq_Row)} {nx0 nxE LV : Nat} {Qf : State → Prop}
variable {K' : xq_KT} {pc : Nat} {L : xq_L} {S : List xq_V} {nx : Nat} {h : xq_H} {rpc len nxt : Nat} {ax : List Nat} {vs : List Int}
set_option maxHeartbeats 1000000 in
theorem xq_s_invokevirtual {Qx : Option xq_V → xq_H → Prop} {k : Nat} (Cx : xq_Cx p R s m args meth c B D dA aI xs own ini rt rows nx0 nxE LV) (hle : ∀ pc L S nx h, K' pc L S nx h → xq_KW p l e R s m args below meth c B D dA aI xs rows nx0 Qf pc L S nx h)
    (hrow : xq_at rows pc = some (.invokevirtual k, (rpc, len, nxt), ax, vs)) (hex : xq_exec (xq_C LV) nxE Qx K' (some (.invokevirtual k, (rpc, len, nxt), ax, vs)) L S nx h) : xq_KW p l e R s m args below meth c B D dA aI xs rows nx0 Qf pc L S nx h := by
  obtain ⟨hx, hown, hts, hKK, hIm, hok, hB, hRm, hini, hnE, hLV⟩ := Cx
  obtain ⟨ho, hpc⟩ := xq_row hok hrow
  simp only [xq_okb, xq_tm, xq_ts, xq_el, Bool.and_eq_true, Bool.or_eq_true, Bool.false_eq_true, false_or, decide_eq_true_eq, Nat.beq_eq] at ho
  intro H locs ls hR hS hl hr hn
  dsimp only at hpc
  rw [hpc]
  rcases ax with _ | ⟨y, _ | ⟨n, _ | ⟨bc, _ | ⟨rci, _ | ⟨kd, _ | ⟨wi, _ | ⟨w2, _ | ⟨w3, _ | ⟨w4, _ | ⟨w5, _ | ⟨a11, ax⟩⟩⟩⟩⟩⟩⟩⟩⟩⟩⟩ <;> try (exact absurd ho.2.1 Bool.false_ne_true)
  obtain ⟨⟨⟨hd, hlen⟩, hnx⟩, hz, hz0⟩ := ho
  subst hlen
  have hk0 : kd = 0 := by
    rcases kd with _ | kd
    · rfl
    · exact absurd hz0 Bool.false_ne_true
  subst hk0
  replace hz : xq_okc own k true [y, n, bc, rci, 0, wi, w2, w3, w4, w5] = true := hz
  unfold xq_okc at hz
  dsimp only at hz
  rw [if_pos rfl] at hz
  simp only [Bool.and_eq_true, decide_eq_true_eq, Nat.beq_eq, Nat.ble_eq] at hz
  obtain ⟨⟨⟨⟨⟨⟨hbc, hml⟩, hy1, hy2, hnp⟩, hcode⟩, hini2⟩, hins⟩, ⟨hlk, hsel⟩, hrc⟩ := hz
  have hml2 : (xq_sg y).2.2.1 ≤ 45 := hml
  unfold xq_exec at hex
  dsimp only at hex
  split at hex
  · rename_i o as S' hpop
    split at hex
    · rename_i hb
      rw [Bool.and_eq_true, Bool.and_eq_true] at hb
      obtain ⟨⟨hrec, hcat⟩, hbud⟩ := hb
      rw [Nat.ble_eq] at hcat hbud
      obtain ⟨ws, hw1, hw2, hw3⟩ := xq_pop_spec _ _ _ _ _ hpop
      rw [List.append_nil] at hw3
      subst hw3
      obtain ⟨lev, hlev, hM⟩ := hex
      have hM := hM l B D dA aI xs
      rw [← hbc] at hM
      subst hw2
      have hras : ∀ v ∈ xR o :: as, xq_rv v := fun v hv => hr v (List.mem_append_left _ (List.mem_reverse.mpr hv))
      have hrS : ∀ v ∈ S', xq_rv v := fun v hv => hr v (List.mem_append_right _ hv)
      have m2 := xq_szs_le (show nx + bc ≤ nxE by omega)
      have m1 := xq_szs_le hn
      have m3 := xq_szs_le (show nx ≤ nx + bc by omega)
      have hreci : ∃ cellB : Cell, H[xq_ad B aI o]? = some cellB ∧ cellB.vm.isStatics = false ∧ s.vm.findClass (xq_sg y).1.cls = some cellB.cls := by
        split at hrec
        · rw [Bool.and_eq_true, Nat.ble_eq, Nat.ble_eq] at hrec
          obtain ⟨i, rfl⟩ : ∃ i, o = 1100 + i := ⟨o - 1100, by omega⟩
          have hrc : (xq_sg y).1.cls = "java/lang/String" := of_decide_eq_true hrc
          have e9 : xq_ad B aI (1100 + i) = aI (1100 + i) := by rw [xq_ad, if_neg (by omega)]
          rw [hrc, e9]
          exact vk_recv (adK := fun i => aI (1100 + i)) (adV := fun i => aI (1200 + i)) (i := i) hIm.1 (by omega) hS
        · rename_i h99
          split at hrec
          · rename_i ci hcls
            rw [Bool.and_eq_true, Nat.beq_eq, Nat.blt_eq] at hrec
            obtain ⟨rfl, hoN⟩ := hrec
            have hrc2 : (xq_cl[ci]?).map (fun q => q.1) = some (xq_sg y).1.cls := by
              split at hrc
              · exact absurd rfl h99
              · exact of_decide_eq_true hrc
            obtain ⟨q, hcl, hq⟩ := Option.map_eq_some_iff.mp hrc2
            have hci : ci < 11 := (List.getElem?_eq_some_iff.mp hcl).1
            have ho80 : o < 80 := xq_cls_lt hcls (fun z => by cases z; omega)
            have ha := xq_ws_at B dA h hoN ho80
            have hce : xq_ce B dA h o = .inr (ci, xq_fs B h o ci) := by unfold xq_ce; rw [hcls]
            rw [hce] at ha
            rw [← hq, xq_ad, if_pos (by omega)]
            exact va_recv hKK hR.1 hcl ha
          · exact absurd hrec (by decide)
      rw [List.map_append, List.map_reverse, List.map_cons]
      intro T hT X
      have hsz := xq_size X (by rw [hT]; exact hR) hB hn
      rw [hT] at hsz
      refine xq_back (bc := bc) (a := ((xR o :: as).map (xq_cv B aI)).toArray) hle ?_ hR hS hl hrS hn hnx T hT X
      refine va_runV (y := (xq_sg y).1) (C := (xq_sg y).1.cls) (own := own) (index := k) (n := n) (b := xq_ad B aI o) (As := as.map (xq_cv B aI)) (Ts := lw_gd) (rm := xq_rm lev nx bc) (bytes := (xq_sg y).2.1) (maxL := (xq_sg y).2.2.1) (ret := (xq_sg y).2.2.2.1) ⟨hx, rfl, rfl, hown, hts⟩ hM
        (cwV n hts (xq_goodIn (fun w hw => ?_)) rfl rfl rfl ⟨rfl, hy1, hy2, hnp⟩ ⟨?_, ?_⟩) ⟨xq_blind, hreci, fun U hU hW => ⟨rfl, xq_Im_go hIm hW hU hS, va_K.moved hW.alike hKK, by rw [hU]; exact hR, hras, by rw [hU]; exact hsz⟩⟩ rfl ?_ hl.1 ?_ (lv_room (by rw [xq_cat_spec]; exact hcat)) hd ⟨?_, ?_⟩
      · rcases List.mem_append.mp hw with hw | hw
        · simp only [List.mem_cons, List.not_mem_nil, or_false] at hw
          rcases hw with rfl | rfl | rfl | rfl
          · exact xq_wd_in hlk
          · exact xq_wd_in hins
          · exact xq_wd_in hsel
          · exact xq_wd_in hini2
        · rcases List.mem_cons.mp hw with rfl | hw
          · exact xq_wd_in hcode
          · exact hw
      · show lev + 1 ≤ R.frames
        omega
      · show 8 + ((xq_sg y).2.2.1 + 11) + 64 * lev ≤ R.locals
        omega
      · rw [List.length_map]
        simp at hw1
        exact hw1
      · show _ = (as.map (xq_cv B aI)).reverse ++ Value.ref (xq_ad B aI o) :: _
        rw [List.reverse_cons, List.append_assoc]
        rfl
      · omega
      · omega
    · exact hex.elim
  · exact hex.elim

set_option maxHeartbeats 1000000 in
theorem xq_s_invokestatic {Qx : Option xq_V → xq_H → Prop} {k : Nat} (Cx : xq_Cx p R s m args meth c B D dA aI xs own ini rt rows nx0 nxE LV) (hle : ∀ pc L S nx h, K' pc L S nx h → xq_KW p l e R s m args below meth c B D dA aI xs rows nx0 Qf pc L S nx h)
    (hrow : xq_at rows pc = some (.invokestatic k, (rpc, len, nxt), ax, vs)) (hex : xq_exec (xq_C LV) nxE Qx K' (some (.invokestatic k, (rpc, len, nxt), ax, vs)) L S nx h) : xq_KW p l e R s m args below meth c B D dA aI xs rows nx0 Qf pc L S nx h := by
  obtain ⟨hx, hown, hts, hKK, hIm, hok, hB, hRm, hini, hnE, hLV⟩ := Cx
  obtain ⟨ho, hpc⟩ := xq_row hok hrow
  simp only [xq_okb, xq_tm, xq_ts, xq_el, Bool.and_eq_true, Bool.or_eq_true, Bool.false_eq_true, false_or, decide_eq_true_eq, Nat.beq_eq] at ho
  intro H locs ls hR hS hl hr hn
  dsimp only at hpc
  rw [hpc]
  rcases ax with _ | ⟨y, _ | ⟨n, _ | ⟨bc, _ | ⟨rci, _ | ⟨kd, _ | ⟨wi, _ | ⟨w2, _ | ⟨w3, _ | ⟨w4, _ | ⟨w5, _ | ⟨a11, ax⟩⟩⟩⟩⟩⟩⟩⟩⟩⟩⟩ <;> try (exact absurd ho.2.1 Bool.false_ne_true)
  obtain ⟨⟨⟨hd, hlen⟩, hnx⟩, hz, hz0⟩ := ho
  subst hlen
  replace hz : xq_okc own k false [y, n, bc, rci, kd, wi, w2, w3, w4, w5] = true := hz
  unfold xq_okc at hz
  dsimp only at hz
  rw [if_neg (by decide)] at hz
  simp only [Bool.and_eq_true, decide_eq_true_eq, Nat.beq_eq, Nat.ble_eq] at hz
  obtain ⟨⟨⟨⟨⟨⟨hbc, hml⟩, hy1, hy2, hnp⟩, hcode⟩, hini2⟩, hins⟩, hlk⟩ := hz
  have hml2 : (xq_sg y).2.2.1 ≤ 45 := hml
  unfold xq_exec at hex
  dsimp only at hex
  split at hex
  · rename_i as S' hpop
    split at hex
    · rename_i hb
      rw [Bool.and_eq_true] at hb
      obtain ⟨hcat, hbud⟩ := hb
      rw [Nat.ble_eq] at hcat hbud
      obtain ⟨ws, hw1, hw2, hw3⟩ := xq_pop_spec _ _ _ _ _ hpop
      rw [List.append_nil] at hw3
      subst hw3
      obtain ⟨lev, hlev, hM⟩ := hex
      have hM := hM l B D dA aI xs
      rw [← hbc] at hM
      subst hw2
      have hras : ∀ v ∈ as, xq_rv v := fun v hv => hr v (List.mem_append_left _ (List.mem_reverse.mpr hv))
      have hrS : ∀ v ∈ S', xq_rv v := fun v hv => hr v (List.mem_append_right _ hv)
      have m2 := xq_szs_le (show nx + bc ≤ nxE by omega)
      have m1 := xq_szs_le hn
      have m3 := xq_szs_le (show nx ≤ nx + bc by omega)
      rw [List.map_append, List.map_reverse]
      intro T hT X
      have hsz := xq_size X (by rw [hT]; exact hR) hB hn
      rw [hT] at hsz
      have hgood : GoodIn lw_gd (Jvm.Cond.code (xq_sg y).1 (xq_sg y).2.1 (xq_sg y).2.2.1 (xq_sg y).2.2.2.1 :: lw_gd) := xq_goodIn (fun w hw => by
        rcases List.mem_cons.mp hw with rfl | hw
        · exact xq_wd_in hcode
        · exact hw)
      have hrA : (xq_rm lev nx bc).frames + 1 ≤ R.frames ∧ 8 + ((xq_sg y).2.2.1 + 11) + (xq_rm lev nx bc).locals ≤ R.locals := by
        refine ⟨?_, ?_⟩
        · show lev + 1 ≤ R.frames
          omega
        · show 8 + ((xq_sg y).2.2.1 + 11) + 64 * lev ≤ R.locals
          omega
      have hPS : PreS s H (va_Pc (as.map (xq_cv B aI)) (xq_Pc B D dA aI xs as nx h)) (as.map (xq_cv B aI)) := ⟨xq_blind, fun U hU hW => ⟨rfl, xq_Im_go hIm hW hU hS, va_K.moved hW.alike hKK, by rw [hU]; exact hR, hras, by rw [hU]; exact hsz⟩⟩
      have hna : (as.map (xq_cv B aI)).length = n := by rw [List.length_map]; exact hw1
      refine xq_back (bc := bc) (a := (as.map (xq_cv B aI)).toArray) hle ?_ hR hS hl hrS hn hnx T hT X
      rcases kd with _ | _ | _ | kd
      · exact absurd hz0 Bool.false_ne_true
      · refine va_runS (y := (xq_sg y).1) (own := own) (index := k) (n := n) (As := as.map (xq_cv B aI)) (Ts := lw_gd) (rm := xq_rm lev nx bc) (bytes := (xq_sg y).2.1) (maxL := (xq_sg y).2.2.1) (ret := (xq_sg y).2.2.2.1) ⟨hx, rfl, rfl, hown, hts⟩ hM
          ⟨callB_of n hts hgood rfl rfl rfl (hts _ (xq_wd_in hini2)) (hts _ (xq_wd_in hlk)) ⟨hy1, hy2, hnp⟩ hrA, hts _ (xq_wd_in hins)⟩ hPS rfl hna hl.1 rfl (lv_room (by rw [xq_cat_spec]; exact hcat)) hd ⟨by omega, by omega⟩
      · refine va_runSN (host := "PutBack") (y := (xq_sg y).1) (own := own) (index := k) (n := n) (As := as.map (xq_cv B aI)) (Ts := lw_gd) (rm := xq_rm lev nx bc) (bytes := (xq_sg y).2.1) (maxL := (xq_sg y).2.2.1) (ret := (xq_sg y).2.2.2.1) ⟨hx, rfl, rfl, hown, hts⟩ hM
          ⟨xq_cn n hts hgood rfl rfl (va_Nw.use rfl (hIm.2.2.2.2.2.2.2 _ (xq_wn_in hlk))) (hts _ (xq_wd_in hini2)) ⟨hy1, hy2, hnp⟩ hrA, hts _ (xq_wd_in hins), trivial⟩ hPS rfl hna hl.1 rfl (lv_room (by rw [xq_cat_spec]; exact hcat)) hd ⟨by omega, by omega⟩
      · exact absurd hz0 Bool.false_ne_true
    · exact hex.elim
  · exact hex.elim

set_option maxHeartbeats 1000000 in
theorem xq_s_invokespecial {Qx : Option xq_V → xq_H → Prop} {k : Nat} (Cx : xq_Cx p R s m args meth c B D dA aI xs own ini rt rows nx0 nxE LV) (hle : ∀ pc L S nx h, K' pc L S nx h → xq_KW p l e R s m args below meth c B D dA aI xs rows nx0 Qf pc L S nx h)
    (hrow : xq_at rows pc = some (.invokespecial k, (rpc, len, nxt), ax, vs)) (hex : xq_exec (xq_C LV) nxE Qx K' (some (.invokespecial k, (rpc, len, nxt), ax, vs)) L S nx h) : xq_KW p l e R s m args below meth c B D dA aI xs rows nx0 Qf pc L S nx h := by
  obtain ⟨hx, hown, hts, hKK, hIm, hok, hB, hRm, hini, hnE, hLV⟩ := Cx
  obtain ⟨ho, hpc⟩ := xq_row hok hrow
  simp only [xq_okb, xq_tm, xq_ts, xq_el, Bool.and_eq_true, Bool.or_eq_true, Bool.false_eq_true, false_or, decide_eq_true_eq, Nat.beq_eq] at ho
  intro H locs ls hR hS hl hr hn
  dsimp only at hpc
  rw [hpc]
  obtain ⟨⟨⟨hd, hlen⟩, hnx⟩, hz⟩ := ho
  subst hlen
  split at hz
  · rcases S with _ | ⟨(o | o | o), S'⟩ <;> try exact False.elim hex
    replace hex : (match Nat.ble (xq_cat S') 8 with | true => K' nxt L S' nx h | false => False) := hex
    split at hex
    · rename_i hcat
      rw [Nat.ble_eq] at hcat
      refine W.objInit hx rfl hown (hts _ (xq_wd_in hz)) (hts _ (by decide +kernel)) (hts _ (by decide +kernel)) rfl hl.1 rfl hd (by omega) ?_ ?_
      · show 2 * 0 + _ + 12 ≤ R.locals
        rw [xq_cat_spec]
        omega
      · exact xq_fin hle hex hR hS hl (xq_rv_t hr) hn hnx rfl
    · exact hex.elim
  · rename_i y n bc rci wi w2 w3 w4 w5
    unfold xq_okc at hz
    dsimp only at hz
    rw [if_pos rfl] at hz
    simp only [Bool.and_eq_true, decide_eq_true_eq, Nat.beq_eq, Nat.ble_eq] at hz
    obtain ⟨⟨⟨⟨⟨⟨hbc, hml⟩, hy1, hy2, hnp⟩, hcode⟩, hini2⟩, hins⟩, hlk⟩ := hz
    have hml2 : (xq_sg y).2.2.1 ≤ 45 := hml
    unfold xq_exec at hex
    dsimp only at hex
    split at hex
    · rename_i o as S' hpop
      split at hex
      · rename_i hb
        rw [Bool.and_eq_true] at hb
        obtain ⟨hcat, hbud⟩ := hb
        rw [Nat.ble_eq] at hcat hbud
        obtain ⟨ws, hw1, hw2, hw3⟩ := xq_pop_spec _ _ _ _ _ hpop
        rw [List.append_nil] at hw3
        subst hw3
        obtain ⟨lev, hlev, hM⟩ := hex
        have hM := hM l B D dA aI xs
        rw [← hbc] at hM
        subst hw2
        have hras : ∀ v ∈ xR o :: as, xq_rv v := fun v hv => hr v (List.mem_append_left _ (List.mem_reverse.mpr hv))
        have hrS : ∀ v ∈ S', xq_rv v := fun v hv => hr v (List.mem_append_right _ hv)
        have m2 := xq_szs_le (show nx + bc ≤ nxE by omega)
        have m1 := xq_szs_le hn
        have m3 := xq_szs_le (show nx ≤ nx + bc by omega)
        rw [List.map_append, List.map_reverse, List.map_cons]
        intro T hT X
        have hsz := xq_size X (by rw [hT]; exact hR) hB hn
        rw [hT] at hsz
        have hrA : (xq_rm lev nx bc).frames + 1 ≤ R.frames ∧ 8 + ((xq_sg y).2.2.1 + 11) + (xq_rm lev nx bc).locals ≤ R.locals := by
          refine ⟨?_, ?_⟩
          · show lev + 1 ≤ R.frames
            omega
          · show 8 + ((xq_sg y).2.2.1 + 11) + 64 * lev ≤ R.locals
            omega
        have hPS : PreS s H (va_Pc ((xR o :: as).map (xq_cv B aI)) (xq_Pc B D dA aI xs (xR o :: as) nx h)) (.ref (xq_ad B aI o) :: as.map (xq_cv B aI)) := ⟨xq_blind, fun U hU hW => ⟨rfl, xq_Im_go hIm hW hU hS, va_K.moved hW.alike hKK, by rw [hU]; exact hR, hras, by rw [hU]; exact hsz⟩⟩
        have hna : (as.map (xq_cv B aI)).length = n := by rw [List.length_map]; simp at hw1; exact hw1
        have hst : ((xq_cv B aI (xR o) :: as.map (xq_cv B aI)).reverse ++ S'.map (xq_cv B aI)) = (as.map (xq_cv B aI)).reverse ++ Value.ref (xq_ad B aI o) :: S'.map (xq_cv B aI) := by
          rw [List.reverse_cons, List.append_assoc]
          rfl
        refine xq_back (bc := bc) (a := ((xR o :: as).map (xq_cv B aI)).toArray) hle ?_ hR hS hl hrS hn hnx T hT X
        obtain ⟨hlk, hnm⟩ := hlk
        obtain ⟨hnm, hret⟩ := hnm
        replace hret : (xq_sg y).2.2.2.1 = none := hret
        rw [hret] at hcode hM
        have hgood : GoodIn lw_gd (Jvm.Cond.code (xq_sg y).1 (xq_sg y).2.1 (xq_sg y).2.2.1 none :: lw_gd) := xq_goodIn (fun w hw => by
          rcases List.mem_cons.mp hw with rfl | hw
          · exact xq_wd_in hcode
          · exact hw)
        exact va_runIN (host := "PutBack") (y := (xq_sg y).1) (own := own) (index := k) (n := n) (b := xq_ad B aI o) (As := as.map (xq_cv B aI)) (Ts := lw_gd) (rm := xq_rm lev nx bc) (bytes := (xq_sg y).2.1) (maxL := (xq_sg y).2.2.1) ⟨hx, rfl, rfl, hown, hts⟩ hM
          ⟨xq_cn n hts hgood rfl rfl (va_Nw.use rfl (hIm.2.2.2.2.2.2.2 _ (xq_wn_in hlk))) (hts _ (xq_wd_in hini2)) ⟨hy1, hy2, hnp⟩ hrA, hnm, hts _ (xq_wd_in hins)⟩ hPS rfl hna hl.1 hst (lv_room (by rw [xq_cat_spec]; exact hcat)) hd ⟨by omega, by omega⟩
      · exact hex.elim
    · exact hex.elim
  · rename_i y n bc rci wi w2 w3 w4 w5
    unfold xq_okc at hz
    dsimp only at hz
    rw [if_pos rfl] at hz
    simp only [Bool.and_eq_true, decide_eq_true_eq, Nat.beq_eq, Nat.ble_eq] at hz
    obtain ⟨⟨⟨⟨⟨⟨hbc, hml⟩, hy1, hy2, hnp⟩, hcode⟩, hini2⟩, hins⟩, hlk⟩ := hz
    have hml2 : (xq_sg y).2.2.1 ≤ 45 := hml
    unfold xq_exec at hex
    dsimp only at hex
    split at hex
    · rename_i o as S' hpop
      split at hex
      · rename_i hb
        rw [Bool.and_eq_true] at hb
        obtain ⟨hcat, hbud⟩ := hb
        rw [Nat.ble_eq] at hcat hbud
        obtain ⟨ws, hw1, hw2, hw3⟩ := xq_pop_spec _ _ _ _ _ hpop
        rw [List.append_nil] at hw3
        subst hw3
        obtain ⟨lev, hlev, hM⟩ := hex
        have hM := hM l B D dA aI xs
        rw [← hbc] at hM
        subst hw2
        have hras : ∀ v ∈ xR o :: as, xq_rv v := fun v hv => hr v (List.mem_append_left _ (List.mem_reverse.mpr hv))
        have hrS : ∀ v ∈ S', xq_rv v := fun v hv => hr v (List.mem_append_right _ hv)
        have m2 := xq_szs_le (show nx + bc ≤ nxE by omega)
        have m1 := xq_szs_le hn
        have m3 := xq_szs_le (show nx ≤ nx + bc by omega)
        rw [List.map_append, List.map_reverse, List.map_cons]
        intro T hT X
        have hsz := xq_size X (by rw [hT]; exact hR) hB hn
        rw [hT] at hsz
        have hrA : (xq_rm lev nx bc).frames + 1 ≤ R.frames ∧ 8 + ((xq_sg y).2.2.1 + 11) + (xq_rm lev nx bc).locals ≤ R.locals := by
          refine ⟨?_, ?_⟩
          · show lev + 1 ≤ R.frames
            omega
          · show 8 + ((xq_sg y).2.2.1 + 11) + 64 * lev ≤ R.locals
            omega
        have hPS : PreS s H (va_Pc ((xR o :: as).map (xq_cv B aI)) (xq_Pc B D dA aI xs (xR o :: as) nx h)) (.ref (xq_ad B aI o) :: as.map (xq_cv B aI)) := ⟨xq_blind, fun U hU hW => ⟨rfl, xq_Im_go hIm hW hU hS, va_K.moved hW.alike hKK, by rw [hU]; exact hR, hras, by rw [hU]; exact hsz⟩⟩
        have hna : (as.map (xq_cv B aI)).length = n := by rw [List.length_map]; simp at hw1; exact hw1
        have hst : ((xq_cv B aI (xR o) :: as.map (xq_cv B aI)).reverse ++ S'.map (xq_cv B aI)) = (as.map (xq_cv B aI)).reverse ++ Value.ref (xq_ad B aI o) :: S'.map (xq_cv B aI) := by
          rw [List.reverse_cons, List.append_assoc]
          rfl
        refine xq_back (bc := bc) (a := ((xR o :: as).map (xq_cv B aI)).toArray) hle ?_ hR hS hl hrS hn hnx T hT X
        obtain ⟨hlk, hnm⟩ := hlk
        obtain ⟨hnm, hret⟩ := hnm
        replace hret : (xq_sg y).2.2.2.1 = none := hret
        rw [hret] at hcode hM
        have hgood : GoodIn lw_gd (Jvm.Cond.code (xq_sg y).1 (xq_sg y).2.1 (xq_sg y).2.2.1 none :: lw_gd) := xq_goodIn (fun w hw => by
          rcases List.mem_cons.mp hw with rfl | hw
          · exact xq_wd_in hcode
          · exact hw)
        exact va_runI (y := (xq_sg y).1) (own := own) (index := k) (n := n) (b := xq_ad B aI o) (As := as.map (xq_cv B aI)) (Ts := lw_gd) (rm := xq_rm lev nx bc) (bytes := (xq_sg y).2.1) (maxL := (xq_sg y).2.2.1) ⟨hx, rfl, rfl, hown, hts⟩ hM
          ⟨callB_of n hts hgood rfl rfl rfl (hts _ (xq_wd_in hini2)) (hts _ (xq_wd_in hlk)) ⟨hy1, hy2, hnp⟩ hrA, hnm, hts _ (xq_wd_in hins)⟩ hPS rfl hna hl.1 hst (lv_room (by rw [xq_cat_spec]; exact hcat)) hd ⟨by omega, by omega⟩
      · exact hex.elim
    · exact hex.elim
  · exact absurd hz Bool.false_ne_true
end XQ3
end
section
/-! THE ABSTRACT RUN IS THE MACHINE'S: a whole method -/
def xq_rtok (rt : Option FieldType) (k : Nat) : Prop := match k with
  | 0 => rt = some .int
  | 1 => rt = some .boolean
  | 2 => rt = some .char
  | _ => rt = some .byte
theorem xq_narrow {rt : Option FieldType} {k : Nat} {v : Int} {A : Prop} (h : xq_rtok rt k) (hi : xq_ir k v A) (hv : -2147483648 ≤ v ∧ v ≤ 2147483647) : ∃ ty, rt = some ty ∧ narrow ty (.int (Int32.ofInt v)) = .int (Int32.ofInt v) ∧ A := by
  match k, h, hi with
  | 0, h, hi => exact ⟨_, h, rfl, hi⟩
  | 1, h, hi =>
    refine ⟨_, h, ?_, hi.2⟩
    rcases hi.1 with rfl | rfl <;> rfl
  | 2, h, hi =>
    refine ⟨_, h, ?_, hi.2⟩
    obtain ⟨n, rfl⟩ := Int.eq_ofNat_of_zero_le hi.1.1
    have h2 := hi.1.2
    exact (pk_charN (q := n) (by omega)).1
  | n + 3, h, hi =>
    refine ⟨_, h, ?_, hi.2⟩
    show Value.int _ = _
    congr 1
    rw [← Int32.toInt_inj, Int8.toInt_toInt32, Int32.toInt_toInt8, xi_of hv, Int.bmod_def]
    have := hi.1
    split <;> omega
section XQ4
variable {p : Program} {l : Launch} {e : Env} {R : Room} {s : State} {m : MethodId} {args : Array Value} {below : List Frame} {meth : Method} {c : Code} {B : Nat} {D : va_G} {dA : Nat → ClassId} {aI : Nat → Nat} {xs : Int → Int} {own : String} {ini : Bool} {rt : Option FieldType} {rows : List (List xq_Row)} {nx0 nxE LV : Nat} {Qf : State → Prop}
variable {K' : xq_KT} {pc : Nat} {L : xq_L} {S : List xq_V} {nx : Nat} {h : xq_H} {rpc len nxt : Nat} {ax : List Nat} {vs : List Int}
set_option maxHeartbeats 2000000 in
theorem xq_sim {Qx : Option xq_V → xq_H → Prop} (Cx : xq_Cx p R s m args meth c B D dA aI xs own ini rt rows nx0 nxE LV)
    (hI : ∀ (k : Nat) (v : Int) (h : xq_H) (H : Heap) (locs : List Loc) (ls : Array Slot) (pc : Nat), decode c.code pc = .ok (.ireturn, 1) → xq_rtok rt k → xq_ir k v (Qx (some (xI v)) h) → xq_Rep B D dA xs nxE h H → va_S (fun q => B ≤ q) s.heap H locs → xq_rv (xI v) → W p l e R s m args below meth c H locs (nxE - nx0) (xq_szs nxE - xq_szs nx0) Qf (F0 m pc ls [.int (Int32.ofInt v)]))
    (hL : ∀ (v : Int) (h : xq_H) (H : Heap) (locs : List Loc) (ls : Array Slot) (pc : Nat), decode c.code pc = .ok (.lreturn, 1) → rt = some .long → Qx (some (xJ v)) h → xq_Rep B D dA xs nxE h H → va_S (fun q => B ≤ q) s.heap H locs → xq_rv (xJ v) → W p l e R s m args below meth c H locs (nxE - nx0) (xq_szs nxE - xq_szs nx0) Qf (F0 m pc ls [.long (Int64.ofInt v)]))
    (hA : ∀ (o : Nat) (h : xq_H) (H : Heap) (locs : List Loc) (ls : Array Slot) (pc : Nat), decode c.code pc = .ok (.areturn, 1) → (∃ rt0, rt = some rt0 ∧ ((∃ n, rt0 = .object n) ∨ ∃ t, rt0 = .array t)) → Qx (some (xR o)) h → xq_Rep B D dA xs nxE h H → va_S (fun q => B ≤ q) s.heap H locs → W p l e R s m args below meth c H locs (nxE - nx0) (xq_szs nxE - xq_szs nx0) Qf (F0 m pc ls [.ref (xq_ad B aI o)]))
    (hV : ∀ (h : xq_H) (H : Heap) (locs : List Loc) (ls : Array Slot) (pc : Nat), decode c.code pc = .ok (.return_, 1) → rt = none → Qx none h → xq_Rep B D dA xs nxE h H → va_S (fun q => B ≤ q) s.heap H locs → W p l e R s m args below meth c H locs (nxE - nx0) (xq_szs nxE - xq_szs nx0) Qf (F0 m pc ls [])) :
    xq_sound (xq_C LV) rows nxE Qx (xq_KW p l e R s m args below meth c B D dA aI xs rows nx0 Qf) := by
  intro K' pc L S nx h hle hex
  cases hrow : xq_at rows pc with
  | none => rw [hrow] at hex; exact hex.elim
  | some r =>
    rw [hrow] at hex
    obtain ⟨ins, ⟨rpc, len, nxt⟩, ax, vs⟩ := r
    cases ins
    case iload_n k => exact xq_s_iload_n Cx hle hrow hex
    case iload k => exact xq_s_iload Cx hle hrow hex
    case lload_n k => exact xq_s_lload_n Cx hle hrow hex
    case lload k => exact xq_s_lload Cx hle hrow hex
    case aload_n k => exact xq_s_aload_n Cx hle hrow hex
    case aload k => exact xq_s_aload Cx hle hrow hex
    case istore_n k => exact xq_s_istore_n Cx hle hrow hex
    case istore k => exact xq_s_istore Cx hle hrow hex
    case astore_n k => exact xq_s_astore_n Cx hle hrow hex
    case astore k => exact xq_s_astore Cx hle hrow hex
    case lstore k => exact xq_s_lstore Cx hle hrow hex
    case iconst k => exact xq_s_iconst Cx hle hrow hex
    case bipush k => exact xq_s_bipush Cx hle hrow hex
    case sipush k => exact xq_s_sipush Cx hle hrow hex
    case lconst k => exact xq_s_lconst Cx hle hrow hex
    case ldc_w k => exact xq_s_ldc_w Cx hle hrow hex
    case ldc2_w k => exact xq_s_ldc2_w Cx hle hrow hex
    case ldc k => exact xq_s_ldc Cx hle hrow hex
    case iadd => exact xq_s_iadd Cx hle hrow hex
    case isub => exact xq_s_isub Cx hle hrow hex
    case imul => exact xq_s_imul Cx hle hrow hex
    case ineg => exact xq_s_ineg Cx hle hrow hex
    case idiv => exact xq_s_idiv Cx hle hrow hex
    case irem => exact xq_s_irem Cx hle hrow hex
    case ldiv => exact xq_s_ldiv Cx hle hrow hex
    case lrem => exact xq_s_lrem Cx hle hrow hex
    case lcmp => exact xq_s_lcmp Cx hle hrow hex
    case ishl => exact xq_s_ishl Cx hle hrow hex
    case ishr => exact xq_s_ishr Cx hle hrow hex
    case iand => exact xq_s_iand Cx hle hrow hex
    case ior => exact xq_s_ior Cx hle hrow hex
    case ixor => exact xq_s_ixor Cx hle hrow hex
    case iushr => exact xq_s_iushr Cx hle hrow hex
    case i2l => exact xq_s_i2l Cx hle hrow hex
    case i2c => exact xq_s_i2c Cx hle hrow hex
    case i2b => exact xq_s_i2b Cx hle hrow hex
    case dup => exact xq_s_dup Cx hle hrow hex
    case dup2 => exact xq_s_dup2 Cx hle hrow hex
    case pop => exact xq_s_pop Cx hle hrow hex
    case iinc k d => exact xq_s_iinc Cx hle hrow hex
    case goto off => exact xq_s_goto Cx hle hrow hex
    case ifCond cnd off => exact xq_s_ifCond Cx hle hrow hex
    case if_icmp cnd off => exact xq_s_if_icmp Cx hle hrow hex
    case getfield k => exact xq_s_getfield Cx hle hrow hex
    case getstatic k => exact xq_s_getstatic Cx hle hrow hex
    case iaload => exact xq_s_iaload Cx hle hrow hex
    case baload => exact xq_s_baload Cx hle hrow hex
    case arraylength => exact xq_s_arraylength Cx hle hrow hex
    case putfield k => exact xq_s_putfield Cx hle hrow hex
    case iastore => exact xq_s_iastore Cx hle hrow hex
    case bastore => exact xq_s_bastore Cx hle hrow hex
    case new k => exact xq_s_new Cx hle hrow hex
    case newarray k => exact xq_s_newarray Cx hle hrow hex
    case tableswitch dflt lo hi offs => exact xq_s_tableswitch Cx hle hrow hex
    case lookupswitch dflt ps => exact xq_s_lookupswitch Cx hle hrow hex
    case invokevirtual k => exact xq_s_invokevirtual Cx hle hrow hex
    case invokestatic k => exact xq_s_invokestatic Cx hle hrow hex
    case invokespecial k => exact xq_s_invokespecial Cx hle hrow hex
    case ireturn =>
      obtain ⟨hx, hown, hts, hKK, hIm, hok, hB, hRm, hini, hnE, hLV⟩ := Cx
      obtain ⟨ho, hpc⟩ := xq_row hok hrow
      simp only [xq_okb, xq_tm, xq_ts, xq_el, Bool.and_eq_true, Bool.or_eq_true, Bool.false_eq_true, false_or, decide_eq_true_eq, Nat.beq_eq] at ho
      intro H locs ls hR hS hl hr hn
      dsimp only at hpc
      rw [hpc]
      rcases ax with _ | ⟨k, _ | ⟨a2, ax⟩⟩ <;> try exact False.elim hex
      rcases S with _ | ⟨(v | v | v), _ | ⟨w, S'⟩⟩ <;> try exact False.elim hex
      obtain ⟨⟨⟨hd, hlen⟩, -⟩, hz⟩ := ho
      subst hlen
      replace hex : (match Nat.beq nx nxE with | true => xq_ir k v (Qx (some (xI v)) h) | false => False) := hex
      split at hex
      · rename_i hnx
        rw [Nat.beq_eq] at hnx
        subst hnx
        have hk : xq_rtok rt k := by
          rcases k with _ | _ | _ | _ | k
          · exact of_decide_eq_true (p := rt = some .int) hz
          · exact of_decide_eq_true (p := rt = some .boolean) hz
          · exact of_decide_eq_true (p := rt = some .char) hz
          · exact of_decide_eq_true (p := rt = some .byte) hz
          · exact absurd hz Bool.false_ne_true
        exact hI k v h H locs ls rpc hd hk hex hR hS (xq_rv_h hr)
      · exact hex.elim
    case lreturn =>
      obtain ⟨hx, hown, hts, hKK, hIm, hok, hB, hRm, hini, hnE, hLV⟩ := Cx
      obtain ⟨ho, hpc⟩ := xq_row hok hrow
      simp only [xq_okb, xq_tm, xq_ts, xq_el, Bool.and_eq_true, Bool.or_eq_true, Bool.false_eq_true, false_or, decide_eq_true_eq, Nat.beq_eq] at ho
      intro H locs ls hR hS hl hr hn
      dsimp only at hpc
      rw [hpc]
      rcases S with _ | ⟨(v | v | v), _ | ⟨w, S'⟩⟩ <;> try exact False.elim hex
      obtain ⟨⟨⟨hd, hlen⟩, -⟩, hz⟩ := ho
      subst hlen
      replace hex : (match Nat.beq nx nxE with | true => Qx (some (xJ v)) h | false => False) := hex
      split at hex
      · rename_i hnx
        rw [Nat.beq_eq] at hnx
        subst hnx
        exact hL v h H locs ls rpc hd hz hex hR hS (xq_rv_h hr)
      · exact hex.elim
    case areturn =>
      obtain ⟨hx, hown, hts, hKK, hIm, hok, hB, hRm, hini, hnE, hLV⟩ := Cx
      obtain ⟨ho, hpc⟩ := xq_row hok hrow
      simp only [xq_okb, xq_tm, xq_ts, xq_el, Bool.and_eq_true, Bool.or_eq_true, Bool.false_eq_true, false_or, decide_eq_true_eq, Nat.beq_eq] at ho
      intro H locs ls hR hS hl hr hn
      dsimp only at hpc
      rw [hpc]
      rcases S with _ | ⟨(v | v | v), _ | ⟨w, S'⟩⟩ <;> try exact False.elim hex
      obtain ⟨⟨⟨hd, hlen⟩, -⟩, hz⟩ := ho
      subst hlen
      replace hex : (match Nat.beq nx nxE with | true => Qx (some (xR v)) h | false => False) := hex
      split at hex
      · rename_i hnx
        rw [Nat.beq_eq] at hnx
        subst hnx
        refine hA v h H locs ls rpc hd ?_ hex hR hS
        split at hz
        · exact ⟨_, rfl, Or.inl ⟨_, rfl⟩⟩
        · exact ⟨_, rfl, Or.inr ⟨_, rfl⟩⟩
        · exact absurd hz Bool.false_ne_true
      · exact hex.elim
    case return_ =>
      obtain ⟨hx, hown, hts, hKK, hIm, hok, hB, hRm, hini, hnE, hLV⟩ := Cx
      obtain ⟨ho, hpc⟩ := xq_row hok hrow
      simp only [xq_okb, xq_tm, xq_ts, xq_el, Bool.and_eq_true, Bool.or_eq_true, Bool.false_eq_true, false_or, decide_eq_true_eq, Nat.beq_eq] at ho
      intro H locs ls hR hS hl hr hn
      dsimp only at hpc
      rw [hpc]
      rcases S with _ | ⟨v, S'⟩ <;> try exact False.elim hex
      obtain ⟨⟨⟨hd, hlen⟩, -⟩, hz⟩ := ho
      subst hlen
      replace hex : (match Nat.beq nx nxE with | true => Qx none h | false => False) := hex
      split at hex
      · rename_i hnx
        rw [Nat.beq_eq] at hnx
        subst hnx
        exact hV h H locs ls rpc hd hz hex hR hS
      · exact hex.elim
    all_goals exact hex.elim
end XQ4
/-- the locals of an entry -/
def xq_ent : List xq_V → xq_L
  | [] => []
  | .inr (.inl v) :: l => some (xJ v) :: none :: xq_ent l
  | v :: l => some v :: xq_ent l
theorem xq_get_rep : ∀ (n i : Nat), xq_get (List.replicate n (none : Option xq_V)) i = none
  | 0, _ => rfl
  | _ + 1, 0 => rfl
  | n + 1, i + 1 => xq_get_rep n i
theorem xq_ent_mem (B : Nat) (aI : Nat → Nat) (n : Nat) : ∀ (as : List xq_V) (k i : Nat) (v : xq_V), xq_get (xq_ent as ++ List.replicate n none) i = some v → v ∈ as ∧ (k + i, xq_cv B aI v) ∈ lv_args k (as.map (xq_cv B aI))
  | [], k, i, v, h => by
    simp only [xq_ent, List.nil_append] at h
    rw [xq_get_rep] at h
    cases h
  | .inr (.inl w) :: l, k, i, v, h => by
    match i, h with
    | 0, h => cases h; exact ⟨List.mem_cons_self, List.mem_cons_self⟩
    | 1, h => cases h
    | i + 2, h =>
      have ih := xq_ent_mem B aI n l (k + 2) i v h
      refine ⟨List.mem_cons_of_mem _ ih.1, List.mem_cons_of_mem _ ?_⟩
      rw [show k + (i + 2) = k + 2 + i by omega]
      exact ih.2
  | .inl w :: l, k, i, v, h => by
    match i, h with
    | 0, h => cases h; exact ⟨List.mem_cons_self, List.mem_cons_self⟩
    | i + 1, h =>
      have ih := xq_ent_mem B aI n l (k + 1) i v h
      refine ⟨List.mem_cons_of_mem _ ih.1, List.mem_cons_of_mem _ ?_⟩
      rw [show k + (i + 1) = k + 1 + i by omega]
      exact ih.2
  | .inr (.inr w) :: l, k, i, v, h => by
    match i, h with
    | 0, h => cases h; exact ⟨List.mem_cons_self, List.mem_cons_self⟩
    | i + 1, h =>
      have ih := xq_ent_mem B aI n l (k + 1) i v h
      refine ⟨List.mem_cons_of_mem _ ih.1, List.mem_cons_of_mem _ ?_⟩
      rw [show k + (i + 1) = k + 1 + i by omega]
      exact ih.2
theorem xq_ent_len (B : Nat) (aI : Nat → Nat) : ∀ (as : List xq_V), (lg_sl (as.map (xq_cv B aI))).length = (xq_ent as).length
  | [] => rfl
  | .inr (.inl w) :: l => by
    have ih := xq_ent_len B aI l
    simp only [lg_sl, List.map_cons, List.flatMap_cons] at ih ⊢
    rw [List.length_append, ih]
    show 2 + _ = (xq_ent l).length + 1 + 1
    omega
  | .inl w :: l => by
    have ih := xq_ent_len B aI l
    simp only [lg_sl, List.map_cons, List.flatMap_cons] at ih ⊢
    rw [List.length_append, ih]
    show 1 + _ = (xq_ent l).length + 1
    omega
  | .inr (.inr w) :: l => by
    have ih := xq_ent_len B aI l
    simp only [lg_sl, List.map_cons, List.flatMap_cons] at ih ⊢
    rw [List.length_append, ih]
    show 1 + _ = (xq_ent l).length + 1
    omega
/-- the locals at the entry of a method hold its arguments -/
theorem xq_lv_ent (B : Nat) (aI : Nat → Nat) (as : List xq_V) (n : Nat) (hn : (xq_ent as).length ≤ n) (hr : ∀ v ∈ as, xq_rv v) : xq_lv B aI ((lg_sl (as.map (xq_cv B aI)) ++ List.replicate (n - (lg_sl (as.map (xq_cv B aI))).length) Slot.unset).toArray) n (xq_ent as ++ List.replicate (n - (xq_ent as).length) none) := by
  have hl := lv_entry (as.map (xq_cv B aI)) (n := n) (by rw [xq_ent_len]; exact hn)
  refine ⟨hl.1, hl.2.1, by simp; omega, fun i v hv => ?_⟩
  obtain ⟨h1, h2⟩ := xq_ent_mem B aI _ as 0 i v hv
  rw [Nat.zero_add] at h2
  exact ⟨hl.2.2 _ h2, hr v h1⟩
/-- a contract out of a walk, for each method that is run by its own code -/
theorem xq_ofW {l : Launch} {y : MethodName} {ws ws' : List Jvm.Cond} {rm : Room} {Pc : Array Value → State → Prop} {Qc : Array Value → State → Outcome → State → Prop} {mc ms : Nat} {free : Addr → Prop} {cc : ByteArray} {maxL : Nat} {ret : Option FieldType} (hy : plainFor y = true) (hw : ws = Jvm.Cond.code y cc maxL ret :: ws')
    (body : ∀ p e s m args below meth c s₁, BodyLoose p l y (headSpec ws rm) cc maxL ret e s m args below meth c s₁ → c.maxLocals = maxL → Pc args s → W p l e (headSpec ws rm).room s m args below meth c s.heap [] 0 0 (MQ below Qc args s mc ms free) (entryFrame m args maxL)) : Met l y ws rm Pc Qc mc ms free := by
  refine MetFree.of_bodySF (code := cc) (maxLocals := maxL) (ret := ret) hy (fun args s m h hn => ?_) (fun p e s m args below meth c s₁ B hml hP _ => ?_)
  · obtain ⟨meth, c, h1, h2, h3, h4, h5, h6, -⟩ := Cond.code_spec hn (atoms_spec (ws := ws) h _ (by rw [hw]; exact List.mem_cons_self))
    exact ⟨meth, c, h1, h2, h3, h4, h5, h6⟩
  · obtain ⟨t, a1, o, b1, b2, b3, b4⟩ := body p e s m args below meth c s₁ B hml hP s₁ (by rw [B.state]; rfl) (Stand.of_body B)
    exact ⟨t, o, a1, b1, b2, b3, b4⟩
set_option maxHeartbeats 1000000 in
/-- a contract by an abstract run -/
theorem xq_enter {lev y : Nat} {as : List xq_V} {nx : Nat} {h : xq_H} {Q : Option xq_V → xq_H → Prop} {rows : List (List xq_Row)} {own : String} {ini : Bool} (hok : xq_okM (xq_sg y).2.1 own ini (xq_sg y).2.2.2.1 rows = true) (hown : (xq_sg y).1.cls = own) (hini : ini = true → (xq_sg y).1.name = "<init>") (hpl : plainFor (xq_sg y).1 = true) (h0 : xq_rp rows 0 = 0) (hlev : 1 ≤ lev) (hnx : nx + (xq_sg y).2.2.2.2 ≤ 81) (hln : (xq_ent as).length ≤ (xq_sg y).2.2.1)
    (body : ∀ K : xq_KT, xq_sound (xq_C lev) rows (nx + (xq_sg y).2.2.2.2) Q K → K 0 (xq_ent as ++ List.replicate ((xq_sg y).2.2.1 - (xq_ent as).length) none) [] nx h) : xq_met lev y as nx h Q := by
  intro l B D dA aI xs
  refine xq_ofW (cc := (xq_sg y).2.1) (maxL := (xq_sg y).2.2.1) (ret := (xq_sg y).2.2.2.1) hpl rfl ?_
  intro p e s m args below meth c s₁ Bd hml hv
  obtain ⟨rfl, hIm, hK, hRep, hrv, hB1, hB2⟩ := hv
  have hts0 := atoms_spec (ws := Jvm.Cond.code (xq_sg y).1 (xq_sg y).2.1 (xq_sg y).2.2.1 (xq_sg y).2.2.2.1 :: lw_gd) Bd.pre
  have hcls : s.vm.findClass own = some m.cls := by rw [← hown]; exact findClass_of_methodNamed Bd.named
  have hlocks := Bd.notSynchronized
  have hrt := Bd.returns
  have hb := Bd.bytes
  have m1 := xq_szs_le (show nx ≤ nx + (xq_sg y).2.2.2.2 by omega)
  have Cx : xq_Cx p (headSpec (Jvm.Cond.code (xq_sg y).1 (xq_sg y).2.1 (xq_sg y).2.2.1 (xq_sg y).2.2.2.1 :: lw_gd) (xq_rm lev nx (xq_sg y).2.2.2.2)).room s m (as.map (xq_cv B aI)).toArray meth c B D dA aI xs own ini (xq_sg y).2.2.2.1 rows nx (nx + (xq_sg y).2.2.2.2) lev := by
    refine ⟨Bd.exec, hcls, fun w hw => hts0 w (List.mem_cons_of_mem _ hw), hK, hIm, by rw [hb]; exact hok, ⟨hB1, hB2⟩, ⟨?_, Nat.le_refl _, Nat.le_refl _, Nat.le_refl _⟩, fun z => ?_, hnx, hlev⟩
    · show nx + (xq_sg y).2.2.2.2 - nx ≤ (xq_sg y).2.2.2.2
      omega
    · rw [(name_of_methodNamed Bd.named Bd.method).1]
      exact hini z
  have key := body _ (xq_sim (l := l) (e := e) (below := below) (Qf := MQ below (xq_Qc B D dA aI xs (nx + (xq_sg y).2.2.2.2) Q) (as.map (xq_cv B aI)).toArray s (nx + (xq_sg y).2.2.2.2 - nx) (xq_szs (nx + (xq_sg y).2.2.2.2) - xq_szs nx) (fun q => B ≤ q)) Cx
    (fun k v h H locs ls pc hd hk hi hR hS hv => by
      obtain ⟨ty, e1, e2, hq⟩ := xq_narrow hk hi hv
      exact W.zret Bd.exec rfl (hrt.trans e1) e2 (fun t ht hw => ⟨⟨some (xI v), h, rfl, fun w hw => by cases hw; exact hv, hq, by rw [ht]; exact hR⟩, hS.F ht⟩) hS.2.2 hd)
    (fun v h H locs ls pc hd hk hq hR hS hv => W.lret Bd.exec rfl (hrt.trans hk) (fun t ht hw => ⟨⟨some (xJ v), h, rfl, fun w hw => by cases hw; exact hv, hq, by rw [ht]; exact hR⟩, hS.F ht⟩) hS.2.2 hd)
    (fun o h H locs ls pc hd hk hq hR hS => by
      obtain ⟨rt0, e1, e2⟩ := hk
      exact W.aret Bd.exec rfl (hrt.trans e1) e2 (Or.inr ⟨_, rfl⟩) (fun t ht hw => ⟨⟨some (xR o), h, rfl, fun w hw => by cases hw; exact trivial, hq, by rw [ht]; exact hR⟩, hS.F ht⟩) hS.2.2 hd)
    (fun h H locs ls pc hd hk hq hR hS => W.vret Bd.exec rfl (hrt.trans hk) (fun t ht hw => ⟨⟨none, h, rfl, (by nofun), hq, by rw [ht]; exact hR⟩, hS.F ht⟩) hS.2.2 hd))
  rw [lg_entry_eq]
  have hlv := xq_lv_ent B aI as (xq_sg y).2.2.1 hln hrv
  rw [← hml] at hlv
  have k2 := key s.heap [] _ hRep va_S.rf (by rw [hml] at hlv ⊢; exact hlv) (by nofun) (Nat.le_refl _)
  rw [h0, Nat.sub_self, Nat.sub_self, show nx + (xq_sg y).2.2.2.2 - nx = (xq_sg y).2.2.2.2 by omega] at k2
  exact k2
end
section
/-- a contract by an abstract run, when all is made -/
theorem xq_enterM {lev y : Nat} {as : List xq_V} {h : xq_H} {Q : Option xq_V → xq_H → Prop} {rows : List (List xq_Row)} {own : String} {L0 : xq_L} {nm : MethodName} {bytes : ByteArray} {ml : Nat} {ret : Option FieldType} (hsg : xq_sg y = (nm, bytes, ml, ret, 0)) (hok : xq_okM bytes own false ret rows = true) (hown : nm.cls = own) (hpl : plainFor nm = true) (h0 : xq_rp rows 0 = 0) (hlev : 1 ≤ lev) (hln : (xq_ent as).length ≤ ml) (hL : xq_ent as ++ List.replicate (ml - (xq_ent as).length) none = L0)
    (body : ∀ K : xq_KT, xq_sound (xq_C lev) rows 81 Q K → K 0 L0 [] 81 h) : xq_met lev y as 81 h Q := by
  refine xq_enter (rows := rows) (own := own) (ini := false) (by rw [hsg]; exact hok) (by rw [hsg]; exact hown) (by nofun) (by rw [hsg]; exact hpl) h0 hlev (by rw [hsg]; exact Nat.le_refl _) (by rw [hsg]; exact hln) (fun K hK => ?_)
  rw [hsg] at hK ⊢
  dsimp only at hK ⊢
  rw [hL]
  exact body K hK
theorem en_JM_min {lev : Nat} {h : xq_H} {Q : Option xq_V → xq_H → Prop} {a0 : Int} {a1 : Int} (hlev : 1 ≤ lev) (body : ∀ K : xq_KT, xq_sound (xq_C lev) rw_JM_min 81 Q K → K 0 [some (xI a0), some (xI a1)] [] 81 h) : xq_met lev y_JM_min [xI a0, xI a1] 81 h Q := xq_enterM (L0 := [some (xI a0), some (xI a1)]) rfl ok_JM_min rfl (by decide +kernel) rfl hlev (Nat.le_of_ble_eq_true rfl) rfl body
theorem en_JM_max {lev : Nat} {h : xq_H} {Q : Option xq_V → xq_H → Prop} {a0 : Int} {a1 : Int} (hlev : 1 ≤ lev) (body : ∀ K : xq_KT, xq_sound (xq_C lev) rw_JM_max 81 Q K → K 0 [some (xI a0), some (xI a1)] [] 81 h) : xq_met lev y_JM_max [xI a0, xI a1] 81 h Q := xq_enterM (L0 := [some (xI a0), some (xI a1)]) rfl ok_JM_max rfl (by decide +kernel) rfl hlev (Nat.le_of_ble_eq_true rfl) rfl body
theorem en_JM_floorMod {lev : Nat} {h : xq_H} {Q : Option xq_V → xq_H → Prop} {a0 : Int} {a1 : Int} (hlev : 1 ≤ lev) (body : ∀ K : xq_KT, xq_sound (xq_C lev) rw_JM_floorMod 81 Q K → K 0 [some (xI a0), some (xI a1), none] [] 81 h) : xq_met lev y_JM_floorMod [xI a0, xI a1] 81 h Q := xq_enterM (L0 := [some (xI a0), some (xI a1), none]) rfl ok_JM_floorMod rfl (by decide +kernel) rfl hlev (Nat.le_of_ble_eq_true rfl) rfl body
theorem en_JI_bitCount {lev : Nat} {h : xq_H} {Q : Option xq_V → xq_H → Prop} {a0 : Int} (hlev : 1 ≤ lev) (body : ∀ K : xq_KT, xq_sound (xq_C lev) rw_JI_bitCount 81 Q K → K 0 [some (xI a0)] [] 81 h) : xq_met lev y_JI_bitCount [xI a0] 81 h Q := xq_enterM (L0 := [some (xI a0)]) rfl ok_JI_bitCount rfl (by decide +kernel) rfl hlev (Nat.le_of_ble_eq_true rfl) rfl body
theorem en_JS_length {lev : Nat} {h : xq_H} {Q : Option xq_V → xq_H → Prop} {o : Nat} (hlev : 1 ≤ lev) (body : ∀ K : xq_KT, xq_sound (xq_C lev) rw_JS_length 81 Q K → K 0 [some (xR o)] [] 81 h) : xq_met lev y_JS_length [xR o] 81 h Q := xq_enterM (L0 := [some (xR o)]) rfl ok_JS_length rfl (by decide +kernel) rfl hlev (Nat.le_of_ble_eq_true rfl) rfl body
theorem en_JS_coder {lev : Nat} {h : xq_H} {Q : Option xq_V → xq_H → Prop} {o : Nat} (hlev : 1 ≤ lev) (body : ∀ K : xq_KT, xq_sound (xq_C lev) rw_JS_coder 81 Q K → K 0 [some (xR o)] [] 81 h) : xq_met lev y_JS_coder [xR o] 81 h Q := xq_enterM (L0 := [some (xR o)]) rfl ok_JS_coder rfl (by decide +kernel) rfl hlev (Nat.le_of_ble_eq_true rfl) rfl body
theorem en_JS_isLatin1 {lev : Nat} {h : xq_H} {Q : Option xq_V → xq_H → Prop} {o : Nat} (hlev : 1 ≤ lev) (body : ∀ K : xq_KT, xq_sound (xq_C lev) rw_JS_isLatin1 81 Q K → K 0 [some (xR o)] [] 81 h) : xq_met lev y_JS_isLatin1 [xR o] 81 h Q := xq_enterM (L0 := [some (xR o)]) rfl ok_JS_isLatin1 rfl (by decide +kernel) rfl hlev (Nat.le_of_ble_eq_true rfl) rfl body
theorem en_JS_charAt {lev : Nat} {h : xq_H} {Q : Option xq_V → xq_H → Prop} {o : Nat} {a0 : Int} (hlev : 1 ≤ lev) (body : ∀ K : xq_KT, xq_sound (xq_C lev) rw_JS_charAt 81 Q K → K 0 [some (xR o), some (xI a0)] [] 81 h) : xq_met lev y_JS_charAt [xR o, xI a0] 81 h Q := xq_enterM (L0 := [some (xR o), some (xI a0)]) rfl ok_JS_charAt rfl (by decide +kernel) rfl hlev (Nat.le_of_ble_eq_true rfl) rfl body
theorem en_JS_checkIndex {lev : Nat} {h : xq_H} {Q : Option xq_V → xq_H → Prop} {a0 : Int} {a1 : Int} (hlev : 1 ≤ lev) (body : ∀ K : xq_KT, xq_sound (xq_C lev) rw_JS_checkIndex 81 Q K → K 0 [some (xI a0), some (xI a1)] [] 81 h) : xq_met lev y_JS_checkIndex [xI a0, xI a1] 81 h Q := xq_enterM (L0 := [some (xI a0), some (xI a1)]) rfl ok_JS_checkIndex rfl (by decide +kernel) rfl hlev (Nat.le_of_ble_eq_true rfl) rfl body
theorem en_JS_indexOf {lev : Nat} {h : xq_H} {Q : Option xq_V → xq_H → Prop} {o : Nat} {a0 : Int} (hlev : 1 ≤ lev) (body : ∀ K : xq_KT, xq_sound (xq_C lev) rw_JS_indexOf 81 Q K → K 0 [some (xR o), some (xI a0)] [] 81 h) : xq_met lev y_JS_indexOf [xR o, xI a0] 81 h Q := xq_enterM (L0 := [some (xR o), some (xI a0)]) rfl ok_JS_indexOf rfl (by decide +kernel) rfl hlev (Nat.le_of_ble_eq_true rfl) rfl body
theorem en_JS_indexOf2 {lev : Nat} {h : xq_H} {Q : Option xq_V → xq_H → Prop} {o : Nat} {a0 : Int} {a1 : Int} (hlev : 1 ≤ lev) (body : ∀ K : xq_KT, xq_sound (xq_C lev) rw_JS_indexOf2 81 Q K → K 0 [some (xR o), some (xI a0), some (xI a1)] [] 81 h) : xq_met lev y_JS_indexOf2 [xR o, xI a0, xI a1] 81 h Q := xq_enterM (L0 := [some (xR o), some (xI a0), some (xI a1)]) rfl ok_JS_indexOf2 rfl (by decide +kernel) rfl hlev (Nat.le_of_ble_eq_true rfl) rfl body
theorem en_JL_charAt {lev : Nat} {h : xq_H} {Q : Option xq_V → xq_H → Prop} {a0 : Nat} {a1 : Int} (hlev : 1 ≤ lev) (body : ∀ K : xq_KT, xq_sound (xq_C lev) rw_JL_charAt 81 Q K → K 0 [some (xR a0), some (xI a1)] [] 81 h) : xq_met lev y_JL_charAt [xR a0, xI a1] 81 h Q := xq_enterM (L0 := [some (xR a0), some (xI a1)]) rfl ok_JL_charAt rfl (by decide +kernel) rfl hlev (Nat.le_of_ble_eq_true rfl) rfl body
theorem en_JL_canEncode {lev : Nat} {h : xq_H} {Q : Option xq_V → xq_H → Prop} {a0 : Int} (hlev : 1 ≤ lev) (body : ∀ K : xq_KT, xq_sound (xq_C lev) rw_JL_canEncode 81 Q K → K 0 [some (xI a0)] [] 81 h) : xq_met lev y_JL_canEncode [xI a0] 81 h Q := xq_enterM (L0 := [some (xI a0)]) rfl ok_JL_canEncode rfl (by decide +kernel) rfl hlev (Nat.le_of_ble_eq_true rfl) rfl body
theorem en_JL_indexOf {lev : Nat} {h : xq_H} {Q : Option xq_V → xq_H → Prop} {a0 : Nat} {a1 : Int} {a2 : Int} {a3 : Int} (hlev : 1 ≤ lev) (body : ∀ K : xq_KT, xq_sound (xq_C lev) rw_JL_indexOf 81 Q K → K 0 [some (xR a0), some (xI a1), some (xI a2), some (xI a3)] [] 81 h) : xq_met lev y_JL_indexOf [xR a0, xI a1, xI a2, xI a3] 81 h Q := xq_enterM (L0 := [some (xR a0), some (xI a1), some (xI a2), some (xI a3)]) rfl ok_JL_indexOf rfl (by decide +kernel) rfl hlev (Nat.le_of_ble_eq_true rfl) rfl body
theorem en_JL_indexOfChar {lev : Nat} {h : xq_H} {Q : Option xq_V → xq_H → Prop} {a0 : Nat} {a1 : Int} {a2 : Int} {a3 : Int} (hlev : 1 ≤ lev) (body : ∀ K : xq_KT, xq_sound (xq_C lev) rw_JL_indexOfChar 81 Q K → K 0 [some (xR a0), some (xI a1), some (xI a2), some (xI a3), none, none] [] 81 h) : xq_met lev y_JL_indexOfChar [xR a0, xI a1, xI a2, xI a3] 81 h Q := xq_enterM (L0 := [some (xR a0), some (xI a1), some (xI a2), some (xI a3), none, none]) rfl ok_JL_indexOfChar rfl (by decide +kernel) rfl hlev (Nat.le_of_ble_eq_true rfl) rfl body
theorem en_JP_checkIndex {lev : Nat} {h : xq_H} {Q : Option xq_V → xq_H → Prop} {a0 : Int} {a1 : Int} {a2 : Nat} (hlev : 1 ≤ lev) (body : ∀ K : xq_KT, xq_sound (xq_C lev) rw_JP_checkIndex 81 Q K → K 0 [some (xI a0), some (xI a1), some (xR a2)] [] 81 h) : xq_met lev y_JP_checkIndex [xI a0, xI a1, xR a2] 81 h Q := xq_enterM (L0 := [some (xI a0), some (xI a1), some (xR a2)]) rfl ok_JP_checkIndex rfl (by decide +kernel) rfl hlev (Nat.le_of_ble_eq_true rfl) rfl body
theorem en_A_forget {lev : Nat} {h : xq_H} {Q : Option xq_V → xq_H → Prop} {o : Nat} (hlev : 1 ≤ lev) (body : ∀ K : xq_KT, xq_sound (xq_C lev) rw_A_forget 81 Q K → K 0 [some (xR o)] [] 81 h) : xq_met lev y_A_forget [xR o] 81 h Q := xq_enterM (L0 := [some (xR o)]) rfl ok_A_forget rfl (by decide +kernel) rfl hlev (Nat.le_of_ble_eq_true rfl) rfl body
theorem en_A_start {lev : Nat} {h : xq_H} {Q : Option xq_V → xq_H → Prop} {o : Nat} {a0 : Int} {a1 : Int} {a2 : Int} {a3 : Int} {a4 : Int} (hlev : 1 ≤ lev) (body : ∀ K : xq_KT, xq_sound (xq_C lev) rw_A_start 81 Q K → K 0 [some (xR o), some (xI a0), some (xI a1), some (xI a2), some (xI a3), some (xI a4)] [] 81 h) : xq_met lev y_A_start [xR o, xI a0, xI a1, xI a2, xI a3, xI a4] 81 h Q := xq_enterM (L0 := [some (xR o), some (xI a0), some (xI a1), some (xI a2), some (xI a3), some (xI a4)]) rfl ok_A_start rfl (by decide +kernel) rfl hlev (Nat.le_of_ble_eq_true rfl) rfl body
theorem en_A_run {lev : Nat} {h : xq_H} {Q : Option xq_V → xq_H → Prop} {o : Nat} {a0 : Int} {a1 : Int} {a2 : Int} {a3 : Int} (hlev : 1 ≤ lev) (body : ∀ K : xq_KT, xq_sound (xq_C lev) rw_A_run 81 Q K → K 0 [some (xR o), some (xI a0), some (xI a1), some (xI a2), some (xI a3), none, none, none, none] [] 81 h) : xq_met lev y_A_run [xR o, xI a0, xI a1, xI a2, xI a3] 81 h Q := xq_enterM (L0 := [some (xR o), some (xI a0), some (xI a1), some (xI a2), some (xI a3), none, none, none, none]) rfl ok_A_run rfl (by decide +kernel) rfl hlev (Nat.le_of_ble_eq_true rfl) rfl body
theorem en_A_holderOf {lev : Nat} {h : xq_H} {Q : Option xq_V → xq_H → Prop} {a0 : Int} {a1 : Int} (hlev : 1 ≤ lev) (body : ∀ K : xq_KT, xq_sound (xq_C lev) rw_A_holderOf 81 Q K → K 0 [some (xI a0), some (xI a1), none, none] [] 81 h) : xq_met lev y_A_holderOf [xI a0, xI a1] 81 h Q := xq_enterM (L0 := [some (xI a0), some (xI a1), none, none]) rfl ok_A_holderOf rfl (by decide +kernel) rfl hlev (Nat.le_of_ble_eq_true rfl) rfl body
theorem en_A_begin {lev : Nat} {h : xq_H} {Q : Option xq_V → xq_H → Prop} {o : Nat} {a0 : Int} (hlev : 1 ≤ lev) (body : ∀ K : xq_KT, xq_sound (xq_C lev) rw_A_begin 81 Q K → K 0 [some (xR o), some (xI a0)] [] 81 h) : xq_met lev y_A_begin [xR o, xI a0] 81 h Q := xq_enterM (L0 := [some (xR o), some (xI a0)]) rfl ok_A_begin rfl (by decide +kernel) rfl hlev (Nat.le_of_ble_eq_true rfl) rfl body
theorem en_B_add {lev : Nat} {h : xq_H} {Q : Option xq_V → xq_H → Prop} {o : Nat} {a0 : Int} {a1 : Int} {a2 : Int} (hlev : 1 ≤ lev) (body : ∀ K : xq_KT, xq_sound (xq_C lev) rw_B_add 81 Q K → K 0 [some (xR o), some (xI a0), some (xI a1), some (xI a2)] [] 81 h) : xq_met lev y_B_add [xR o, xI a0, xI a1, xI a2] 81 h Q := xq_enterM (L0 := [some (xR o), some (xI a0), some (xI a1), some (xI a2)]) rfl ok_B_add rfl (by decide +kernel) rfl hlev (Nat.le_of_ble_eq_true rfl) rfl body
theorem en_B_copy {lev : Nat} {h : xq_H} {Q : Option xq_V → xq_H → Prop} {o : Nat} {a0 : Nat} (hlev : 1 ≤ lev) (body : ∀ K : xq_KT, xq_sound (xq_C lev) rw_B_copy 81 Q K → K 0 [some (xR o), some (xR a0)] [] 81 h) : xq_met lev y_B_copy [xR o, xR a0] 81 h Q := xq_enterM (L0 := [some (xR o), some (xR a0)]) rfl ok_B_copy rfl (by decide +kernel) rfl hlev (Nat.le_of_ble_eq_true rfl) rfl body
theorem en_C_has {lev : Nat} {h : xq_H} {Q : Option xq_V → xq_H → Prop} {o : Nat} {a0 : Int} (hlev : 1 ≤ lev) (body : ∀ K : xq_KT, xq_sound (xq_C lev) rw_C_has 81 Q K → K 0 [some (xR o), some (xI a0)] [] 81 h) : xq_met lev y_C_has [xR o, xI a0] 81 h Q := xq_enterM (L0 := [some (xR o), some (xI a0)]) rfl ok_C_has rfl (by decide +kernel) rfl hlev (Nat.le_of_ble_eq_true rfl) rfl body
theorem en_C_add {lev : Nat} {h : xq_H} {Q : Option xq_V → xq_H → Prop} {o : Nat} {a0 : Int} {a1 : Int} (hlev : 1 ≤ lev) (body : ∀ K : xq_KT, xq_sound (xq_C lev) rw_C_add 81 Q K → K 0 [some (xR o), some (xI a0), some (xI a1), none] [] 81 h) : xq_met lev y_C_add [xR o, xI a0, xI a1] 81 h Q := xq_enterM (L0 := [some (xR o), some (xI a0), some (xI a1), none]) rfl ok_C_add rfl (by decide +kernel) rfl hlev (Nat.le_of_ble_eq_true rfl) rfl body
theorem en_C_copy {lev : Nat} {h : xq_H} {Q : Option xq_V → xq_H → Prop} {o : Nat} {a0 : Nat} (hlev : 1 ≤ lev) (body : ∀ K : xq_KT, xq_sound (xq_C lev) rw_C_copy 81 Q K → K 0 [some (xR o), some (xR a0)] [] 81 h) : xq_met lev y_C_copy [xR o, xR a0] 81 h Q := xq_enterM (L0 := [some (xR o), some (xR a0)]) rfl ok_C_copy rfl (by decide +kernel) rfl hlev (Nat.le_of_ble_eq_true rfl) rfl body
theorem en_K_settle {lev : Nat} {h : xq_H} {Q : Option xq_V → xq_H → Prop} {o : Nat} (hlev : 1 ≤ lev) (body : ∀ K : xq_KT, xq_sound (xq_C lev) rw_K_settle 81 Q K → K 0 [some (xR o)] [] 81 h) : xq_met lev y_K_settle [xR o] 81 h Q := xq_enterM (L0 := [some (xR o)]) rfl ok_K_settle rfl (by decide +kernel) rfl hlev (Nat.le_of_ble_eq_true rfl) rfl body
theorem en_K_typeOnce {lev : Nat} {h : xq_H} {Q : Option xq_V → xq_H → Prop} {o : Nat} {a0 : Int} {a1 : Int} (hlev : 1 ≤ lev) (body : ∀ K : xq_KT, xq_sound (xq_C lev) rw_K_typeOnce 81 Q K → K 0 [some (xR o), some (xI a0), some (xI a1), none] [] 81 h) : xq_met lev y_K_typeOnce [xR o, xI a0, xI a1] 81 h Q := xq_enterM (L0 := [some (xR o), some (xI a0), some (xI a1), none]) rfl ok_K_typeOnce rfl (by decide +kernel) rfl hlev (Nat.le_of_ble_eq_true rfl) rfl body
theorem en_K_madeOf {lev : Nat} {h : xq_H} {Q : Option xq_V → xq_H → Prop} {o : Nat} {a0 : Int} {a1 : Int} (hlev : 1 ≤ lev) (body : ∀ K : xq_KT, xq_sound (xq_C lev) rw_K_madeOf 81 Q K → K 0 [some (xR o), some (xI a0), some (xI a1), none, none, none, none, none] [] 81 h) : xq_met lev y_K_madeOf [xR o, xI a0, xI a1] 81 h Q := xq_enterM (L0 := [some (xR o), some (xI a0), some (xI a1), none, none, none, none, none]) rfl ok_K_madeOf rfl (by decide +kernel) rfl hlev (Nat.le_of_ble_eq_true rfl) rfl body
theorem en_K_costOf {lev : Nat} {h : xq_H} {Q : Option xq_V → xq_H → Prop} {o : Nat} {a0 : Int} {a1 : Int} {a2 : Int} (hlev : 1 ≤ lev) (body : ∀ K : xq_KT, xq_sound (xq_C lev) rw_K_costOf 81 Q K → K 0 [some (xR o), some (xI a0), some (xI a1), some (xI a2)] [] 81 h) : xq_met lev y_K_costOf [xR o, xI a0, xI a1, xI a2] 81 h Q := xq_enterM (L0 := [some (xR o), some (xI a0), some (xI a1), some (xI a2)]) rfl ok_K_costOf rfl (by decide +kernel) rfl hlev (Nat.le_of_ble_eq_true rfl) rfl body
theorem en_K_priceOf {lev : Nat} {h : xq_H} {Q : Option xq_V → xq_H → Prop} {o : Nat} {a0 : Int} {a1 : Int} {a2 : Int} (hlev : 1 ≤ lev) (body : ∀ K : xq_KT, xq_sound (xq_C lev) rw_K_priceOf 81 Q K → K 0 [some (xR o), some (xI a0), some (xI a1), some (xI a2)] [] 81 h) : xq_met lev y_K_priceOf [xR o, xI a0, xI a1, xI a2] 81 h Q := xq_enterM (L0 := [some (xR o), some (xI a0), some (xI a1), some (xI a2)]) rfl ok_K_priceOf rfl (by decide +kernel) rfl hlev (Nat.le_of_ble_eq_true rfl) rfl body
theorem en_K_plainFar {lev : Nat} {h : xq_H} {Q : Option xq_V → xq_H → Prop} {o : Nat} {a0 : Int} {a1 : Int} (hlev : 1 ≤ lev) (body : ∀ K : xq_KT, xq_sound (xq_C lev) rw_K_plainFar 81 Q K → K 0 [some (xR o), some (xI a0), some (xI a1)] [] 81 h) : xq_met lev y_K_plainFar [xR o, xI a0, xI a1] 81 h Q := xq_enterM (L0 := [some (xR o), some (xI a0), some (xI a1)]) rfl ok_K_plainFar rfl (by decide +kernel) rfl hlev (Nat.le_of_ble_eq_true rfl) rfl body
theorem en_K_slipsInto {lev : Nat} {h : xq_H} {Q : Option xq_V → xq_H → Prop} {o : Nat} {a0 : Int} {a1 : Int} {a2 : Int} (hlev : 1 ≤ lev) (body : ∀ K : xq_KT, xq_sound (xq_C lev) rw_K_slipsInto 81 Q K → K 0 [some (xR o), some (xI a0), some (xI a1), some (xI a2), none, none, none, none, none, none] [] 81 h) : xq_met lev y_K_slipsInto [xR o, xI a0, xI a1, xI a2] 81 h Q := xq_enterM (L0 := [some (xR o), some (xI a0), some (xI a1), some (xI a2), none, none, none, none, none, none]) rfl ok_K_slipsInto rfl (by decide +kernel) rfl hlev (Nat.le_of_ble_eq_true rfl) rfl body
theorem en_K_kindOf {lev : Nat} {h : xq_H} {Q : Option xq_V → xq_H → Prop} {o : Nat} {a0 : Int} (hlev : 1 ≤ lev) (body : ∀ K : xq_KT, xq_sound (xq_C lev) rw_K_kindOf 81 Q K → K 0 [some (xR o), some (xI a0)] [] 81 h) : xq_met lev y_K_kindOf [xR o, xI a0] 81 h Q := xq_enterM (L0 := [some (xR o), some (xI a0)]) rfl ok_K_kindOf rfl (by decide +kernel) rfl hlev (Nat.le_of_ble_eq_true rfl) rfl body
theorem en_K_spread {lev : Nat} {h : xq_H} {Q : Option xq_V → xq_H → Prop} {o : Nat} {a0 : Int} (hlev : 1 ≤ lev) (body : ∀ K : xq_KT, xq_sound (xq_C lev) rw_K_spread 81 Q K → K 0 [some (xR o), some (xI a0), none, none] [] 81 h) : xq_met lev y_K_spread [xR o, xI a0] 81 h Q := xq_enterM (L0 := [some (xR o), some (xI a0), none, none]) rfl ok_K_spread rfl (by decide +kernel) rfl hlev (Nat.le_of_ble_eq_true rfl) rfl body
theorem en_K_spreadCost {lev : Nat} {h : xq_H} {Q : Option xq_V → xq_H → Prop} {o : Nat} {a0 : Int} {a1 : Int} (hlev : 1 ≤ lev) (body : ∀ K : xq_KT, xq_sound (xq_C lev) rw_K_spreadCost 81 Q K → K 0 [some (xR o), some (xI a0), some (xI a1), none, none] [] 81 h) : xq_met lev y_K_spreadCost [xR o, xI a0, xI a1] 81 h Q := xq_enterM (L0 := [some (xR o), some (xI a0), some (xI a1), none, none]) rfl ok_K_spreadCost rfl (by decide +kernel) rfl hlev (Nat.le_of_ble_eq_true rfl) rfl body
theorem en_K_factsOf {lev : Nat} {h : xq_H} {Q : Option xq_V → xq_H → Prop} {o : Nat} {a0 : Int} {a1 : Int} (hlev : 1 ≤ lev) (body : ∀ K : xq_KT, xq_sound (xq_C lev) rw_K_factsOf 81 Q K → K 0 [some (xR o), some (xI a0), some (xI a1)] [] 81 h) : xq_met lev y_K_factsOf [xR o, xI a0, xI a1] 81 h Q := xq_enterM (L0 := [some (xR o), some (xI a0), some (xI a1)]) rfl ok_K_factsOf rfl (by decide +kernel) rfl hlev (Nat.le_of_ble_eq_true rfl) rfl body
theorem en_K_spreadFar {lev : Nat} {h : xq_H} {Q : Option xq_V → xq_H → Prop} {o : Nat} {a0 : Int} {a1 : Int} (hlev : 1 ≤ lev) (body : ∀ K : xq_KT, xq_sound (xq_C lev) rw_K_spreadFar 81 Q K → K 0 [some (xR o), some (xI a0), some (xI a1), none] [] 81 h) : xq_met lev y_K_spreadFar [xR o, xI a0, xI a1] 81 h Q := xq_enterM (L0 := [some (xR o), some (xI a0), some (xI a1), none]) rfl ok_K_spreadFar rfl (by decide +kernel) rfl hlev (Nat.le_of_ble_eq_true rfl) rfl body
theorem en_K_isBeginning {lev : Nat} {h : xq_H} {Q : Option xq_V → xq_H → Prop} {o : Nat} {a0 : Int} (hlev : 1 ≤ lev) (body : ∀ K : xq_KT, xq_sound (xq_C lev) rw_K_isBeginning 81 Q K → K 0 [some (xR o), some (xI a0), none] [] 81 h) : xq_met lev y_K_isBeginning [xR o, xI a0] 81 h Q := xq_enterM (L0 := [some (xR o), some (xI a0), none]) rfl ok_K_isBeginning rfl (by decide +kernel) rfl hlev (Nat.le_of_ble_eq_true rfl) rfl body
theorem en_K_leastSum {lev : Nat} {h : xq_H} {Q : Option xq_V → xq_H → Prop} {o : Nat} {a0 : Int} {a1 : Int} (hlev : 1 ≤ lev) (body : ∀ K : xq_KT, xq_sound (xq_C lev) rw_K_leastSum 81 Q K → K 0 [some (xR o), some (xI a0), some (xI a1), none, none, none, none, none, none, none, none] [] 81 h) : xq_met lev y_K_leastSum [xR o, xI a0, xI a1] 81 h Q := xq_enterM (L0 := [some (xR o), some (xI a0), some (xI a1), none, none, none, none, none, none, none, none]) rfl ok_K_leastSum rfl (by decide +kernel) rfl hlev (Nat.le_of_ble_eq_true rfl) rfl body
theorem en_P_clear {lev : Nat} {h : xq_H} {Q : Option xq_V → xq_H → Prop} {o : Nat} (hlev : 1 ≤ lev) (body : ∀ K : xq_KT, xq_sound (xq_C lev) rw_P_clear 81 Q K → K 0 [some (xR o)] [] 81 h) : xq_met lev y_P_clear [xR o] 81 h Q := xq_enterM (L0 := [some (xR o)]) rfl ok_P_clear rfl (by decide +kernel) rfl hlev (Nat.le_of_ble_eq_true rfl) rfl body
theorem en_P_put {lev : Nat} {h : xq_H} {Q : Option xq_V → xq_H → Prop} {o : Nat} {a0 : Int} (hlev : 1 ≤ lev) (body : ∀ K : xq_KT, xq_sound (xq_C lev) rw_P_put 81 Q K → K 0 [some (xR o), some (xI a0)] [] 81 h) : xq_met lev y_P_put [xR o, xI a0] 81 h Q := xq_enterM (L0 := [some (xR o), some (xI a0)]) rfl ok_P_put rfl (by decide +kernel) rfl hlev (Nat.le_of_ble_eq_true rfl) rfl body
theorem en_P_close {lev : Nat} {h : xq_H} {Q : Option xq_V → xq_H → Prop} {o : Nat} {a0 : Int} (hlev : 1 ≤ lev) (body : ∀ K : xq_KT, xq_sound (xq_C lev) rw_P_close 81 Q K → K 0 [some (xR o), some (xI a0)] [] 81 h) : xq_met lev y_P_close [xR o, xI a0] 81 h Q := xq_enterM (L0 := [some (xR o), some (xI a0)]) rfl ok_P_close rfl (by decide +kernel) rfl hlev (Nat.le_of_ble_eq_true rfl) rfl body
theorem en_P_extra {lev : Nat} {h : xq_H} {Q : Option xq_V → xq_H → Prop} {o : Nat} {a0 : Nat} (hlev : 1 ≤ lev) (body : ∀ K : xq_KT, xq_sound (xq_C lev) rw_P_extra 81 Q K → K 0 [some (xR o), some (xR a0), none, none, none] [] 81 h) : xq_met lev y_P_extra [xR o, xR a0] 81 h Q := xq_enterM (L0 := [some (xR o), some (xR a0), none, none, none]) rfl ok_P_extra rfl (by decide +kernel) rfl hlev (Nat.le_of_ble_eq_true rfl) rfl body
theorem en_P_holds {lev : Nat} {h : xq_H} {Q : Option xq_V → xq_H → Prop} {o : Nat} {a0 : Int} {a1 : Int} {a2 : Nat} (hlev : 1 ≤ lev) (body : ∀ K : xq_KT, xq_sound (xq_C lev) rw_P_holds 81 Q K → K 0 [some (xR o), some (xI a0), some (xI a1), some (xR a2), none, none, none, none] [] 81 h) : xq_met lev y_P_holds [xR o, xI a0, xI a1, xR a2] 81 h Q := xq_enterM (L0 := [some (xR o), some (xI a0), some (xI a1), some (xR a2), none, none, none, none]) rfl ok_P_holds rfl (by decide +kernel) rfl hlev (Nat.le_of_ble_eq_true rfl) rfl body
theorem en_P_passes {lev : Nat} {h : xq_H} {Q : Option xq_V → xq_H → Prop} {a0 : Int} {a1 : Nat} (hlev : 1 ≤ lev) (body : ∀ K : xq_KT, xq_sound (xq_C lev) rw_P_passes 81 Q K → K 0 [some (xI a0), some (xR a1), none, none] [] 81 h) : xq_met lev y_P_passes [xI a0, xR a1] 81 h Q := xq_enterM (L0 := [some (xI a0), some (xR a1), none, none]) rfl ok_P_passes rfl (by decide +kernel) rfl hlev (Nat.le_of_ble_eq_true rfl) rfl body
theorem en_P_copy {lev : Nat} {h : xq_H} {Q : Option xq_V → xq_H → Prop} {o : Nat} {a0 : Nat} (hlev : 1 ≤ lev) (body : ∀ K : xq_KT, xq_sound (xq_C lev) rw_P_copy 81 Q K → K 0 [some (xR o), some (xR a0)] [] 81 h) : xq_met lev y_P_copy [xR o, xR a0] 81 h Q := xq_enterM (L0 := [some (xR o), some (xR a0)]) rfl ok_P_copy rfl (by decide +kernel) rfl hlev (Nat.le_of_ble_eq_true rfl) rfl body
theorem en_R_faultOf {lev : Nat} {h : xq_H} {Q : Option xq_V → xq_H → Prop} {o : Nat} {a0 : Nat} {a1 : Int} (hlev : 1 ≤ lev) (body : ∀ K : xq_KT, xq_sound (xq_C lev) rw_R_faultOf 81 Q K → K 0 [some (xR o), some (xR a0), some (xI a1), none] [] 81 h) : xq_met lev y_R_faultOf [xR o, xR a0, xI a1] 81 h Q := xq_enterM (L0 := [some (xR o), some (xR a0), some (xI a1), none]) rfl ok_R_faultOf rfl (by decide +kernel) rfl hlev (Nat.le_of_ble_eq_true rfl) rfl body
theorem en_R_peek {lev : Nat} {h : xq_H} {Q : Option xq_V → xq_H → Prop} {o : Nat} (hlev : 1 ≤ lev) (body : ∀ K : xq_KT, xq_sound (xq_C lev) rw_R_peek 81 Q K → K 0 [some (xR o)] [] 81 h) : xq_met lev y_R_peek [xR o] 81 h Q := xq_enterM (L0 := [some (xR o)]) rfl ok_R_peek rfl (by decide +kernel) rfl hlev (Nat.le_of_ble_eq_true rfl) rfl body
theorem en_R_readSign {lev : Nat} {h : xq_H} {Q : Option xq_V → xq_H → Prop} {o : Nat} {a0 : Int} (hlev : 1 ≤ lev) (body : ∀ K : xq_KT, xq_sound (xq_C lev) rw_R_readSign 81 Q K → K 0 [some (xR o), some (xI a0)] [] 81 h) : xq_met lev y_R_readSign [xR o, xI a0] 81 h Q := xq_enterM (L0 := [some (xR o), some (xI a0)]) rfl ok_R_readSign rfl (by decide +kernel) rfl hlev (Nat.le_of_ble_eq_true rfl) rfl body
theorem en_R_readName {lev : Nat} {h : xq_H} {Q : Option xq_V → xq_H → Prop} {o : Nat} {a0 : Nat} (hlev : 1 ≤ lev) (body : ∀ K : xq_KT, xq_sound (xq_C lev) rw_R_readName 81 Q K → K 0 [some (xR o), some (xR a0), none] [] 81 h) : xq_met lev y_R_readName [xR o, xR a0] 81 h Q := xq_enterM (L0 := [some (xR o), some (xR a0), none]) rfl ok_R_readName rfl (by decide +kernel) rfl hlev (Nat.le_of_ble_eq_true rfl) rfl body
theorem en_R_readClause {lev : Nat} {h : xq_H} {Q : Option xq_V → xq_H → Prop} {o : Nat} (hlev : 1 ≤ lev) (body : ∀ K : xq_KT, xq_sound (xq_C lev) rw_R_readClause 81 Q K → K 0 [some (xR o), none, none] [] 81 h) : xq_met lev y_R_readClause [xR o] 81 h Q := xq_enterM (L0 := [some (xR o), none, none]) rfl ok_R_readClause rfl (by decide +kernel) rfl hlev (Nat.le_of_ble_eq_true rfl) rfl body
theorem en_R_nameBy {lev : Nat} {h : xq_H} {Q : Option xq_V → xq_H → Prop} {a0 : Int} (hlev : 1 ≤ lev) (body : ∀ K : xq_KT, xq_sound (xq_C lev) rw_R_nameBy 81 Q K → K 0 [some (xI a0)] [] 81 h) : xq_met lev y_R_nameBy [xI a0] 81 h Q := xq_enterM (L0 := [some (xI a0)]) rfl ok_R_nameBy rfl (by decide +kernel) rfl hlev (Nat.le_of_ble_eq_true rfl) rfl body
theorem en_R_readNumber {lev : Nat} {h : xq_H} {Q : Option xq_V → xq_H → Prop} {o : Nat} (hlev : 1 ≤ lev) (body : ∀ K : xq_KT, xq_sound (xq_C lev) rw_R_readNumber 81 Q K → K 0 [some (xR o), none, none] [] 81 h) : xq_met lev y_R_readNumber [xR o] 81 h Q := xq_enterM (L0 := [some (xR o), none, none]) rfl ok_R_readNumber rfl (by decide +kernel) rfl hlev (Nat.le_of_ble_eq_true rfl) rfl body
theorem en_R_readEither {lev : Nat} {h : xq_H} {Q : Option xq_V → xq_H → Prop} {o : Nat} {a0 : Int} (hlev : 1 ≤ lev) (body : ∀ K : xq_KT, xq_sound (xq_C lev) rw_R_readEither 81 Q K → K 0 [some (xR o), some (xI a0), none, none] [] 81 h) : xq_met lev y_R_readEither [xR o, xI a0] 81 h Q := xq_enterM (L0 := [some (xR o), some (xI a0), none, none]) rfl ok_R_readEither rfl (by decide +kernel) rfl hlev (Nat.le_of_ble_eq_true rfl) rfl body
theorem en_R_readFactor {lev : Nat} {h : xq_H} {Q : Option xq_V → xq_H → Prop} {o : Nat} {a0 : Int} (hlev : 1 ≤ lev) (body : ∀ K : xq_KT, xq_sound (xq_C lev) rw_R_readFactor 81 Q K → K 0 [some (xR o), some (xI a0), none] [] 81 h) : xq_met lev y_R_readFactor [xR o, xI a0] 81 h Q := xq_enterM (L0 := [some (xR o), some (xI a0), none]) rfl ok_R_readFactor rfl (by decide +kernel) rfl hlev (Nat.le_of_ble_eq_true rfl) rfl body
theorem en_R_readTest {lev : Nat} {h : xq_H} {Q : Option xq_V → xq_H → Prop} {o : Nat} (hlev : 1 ≤ lev) (body : ∀ K : xq_KT, xq_sound (xq_C lev) rw_R_readTest 81 Q K → K 0 [some (xR o), none, none, none] [] 81 h) : xq_met lev y_R_readTest [xR o] 81 h Q := xq_enterM (L0 := [some (xR o), none, none, none]) rfl ok_R_readTest rfl (by decide +kernel) rfl hlev (Nat.le_of_ble_eq_true rfl) rfl body
theorem en_R_readOneOf {lev : Nat} {h : xq_H} {Q : Option xq_V → xq_H → Prop} {o : Nat} {a0 : Nat} (hlev : 1 ≤ lev) (body : ∀ K : xq_KT, xq_sound (xq_C lev) rw_R_readOneOf 81 Q K → K 0 [some (xR o), some (xR a0), none, none] [] 81 h) : xq_met lev y_R_readOneOf [xR o, xR a0] 81 h Q := xq_enterM (L0 := [some (xR o), some (xR a0), none, none]) rfl ok_R_readOneOf rfl (by decide +kernel) rfl hlev (Nat.le_of_ble_eq_true rfl) rfl body
theorem en_S_copy {lev : Nat} {h : xq_H} {Q : Option xq_V → xq_H → Prop} {o : Nat} {a0 : Nat} (hlev : 1 ≤ lev) (body : ∀ K : xq_KT, xq_sound (xq_C lev) rw_S_copy 81 Q K → K 0 [some (xR o), some (xR a0)] [] 81 h) : xq_met lev y_S_copy [xR o, xR a0] 81 h Q := xq_enterM (L0 := [some (xR o), some (xR a0)]) rfl ok_S_copy rfl (by decide +kernel) rfl hlev (Nat.le_of_ble_eq_true rfl) rfl body
theorem en_T_add {lev : Nat} {h : xq_H} {Q : Option xq_V → xq_H → Prop} {o : Nat} {a0 : Int} {a1 : Int} (hlev : 1 ≤ lev) (body : ∀ K : xq_KT, xq_sound (xq_C lev) rw_T_add 81 Q K → K 0 [some (xR o), some (xI a0), some (xI a1)] [] 81 h) : xq_met lev y_T_add [xR o, xI a0, xI a1] 81 h Q := xq_enterM (L0 := [some (xR o), some (xI a0), some (xI a1)]) rfl ok_T_add rfl (by decide +kernel) rfl hlev (Nat.le_of_ble_eq_true rfl) rfl body
theorem en_T_last {lev : Nat} {h : xq_H} {Q : Option xq_V → xq_H → Prop} {o : Nat} (hlev : 1 ≤ lev) (body : ∀ K : xq_KT, xq_sound (xq_C lev) rw_T_last 81 Q K → K 0 [some (xR o)] [] 81 h) : xq_met lev y_T_last [xR o] 81 h Q := xq_enterM (L0 := [some (xR o)]) rfl ok_T_last rfl (by decide +kernel) rfl hlev (Nat.le_of_ble_eq_true rfl) rfl body
theorem en_T_takeBack {lev : Nat} {h : xq_H} {Q : Option xq_V → xq_H → Prop} {o : Nat} (hlev : 1 ≤ lev) (body : ∀ K : xq_KT, xq_sound (xq_C lev) rw_T_takeBack 81 Q K → K 0 [some (xR o), none] [] 81 h) : xq_met lev y_T_takeBack [xR o] 81 h Q := xq_enterM (L0 := [some (xR o), none]) rfl ok_T_takeBack rfl (by decide +kernel) rfl hlev (Nat.le_of_ble_eq_true rfl) rfl body
theorem en_T_isLeft {lev : Nat} {h : xq_H} {Q : Option xq_V → xq_H → Prop} {o : Nat} {a0 : Int} (hlev : 1 ≤ lev) (body : ∀ K : xq_KT, xq_sound (xq_C lev) rw_T_isLeft 81 Q K → K 0 [some (xR o), some (xI a0), none] [] 81 h) : xq_met lev y_T_isLeft [xR o, xI a0] 81 h Q := xq_enterM (L0 := [some (xR o), some (xI a0), none]) rfl ok_T_isLeft rfl (by decide +kernel) rfl hlev (Nat.le_of_ble_eq_true rfl) rfl body
theorem en_T_copy {lev : Nat} {h : xq_H} {Q : Option xq_V → xq_H → Prop} {o : Nat} {a0 : Nat} (hlev : 1 ≤ lev) (body : ∀ K : xq_KT, xq_sound (xq_C lev) rw_T_copy 81 Q K → K 0 [some (xR o), some (xR a0)] [] 81 h) : xq_met lev y_T_copy [xR o, xR a0] 81 h Q := xq_enterM (L0 := [some (xR o), some (xR a0)]) rfl ok_T_copy rfl (by decide +kernel) rfl hlev (Nat.le_of_ble_eq_true rfl) rfl body
theorem en_W_has {lev : Nat} {h : xq_H} {Q : Option xq_V → xq_H → Prop} {o : Nat} {a0 : Int} (hlev : 1 ≤ lev) (body : ∀ K : xq_KT, xq_sound (xq_C lev) rw_W_has 81 Q K → K 0 [some (xR o), some (xI a0)] [] 81 h) : xq_met lev y_W_has [xR o, xI a0] 81 h Q := xq_enterM (L0 := [some (xR o), some (xI a0)]) rfl ok_W_has rfl (by decide +kernel) rfl hlev (Nat.le_of_ble_eq_true rfl) rfl body
theorem en_W_add {lev : Nat} {h : xq_H} {Q : Option xq_V → xq_H → Prop} {o : Nat} {a0 : Int} {a1 : Int} (hlev : 1 ≤ lev) (body : ∀ K : xq_KT, xq_sound (xq_C lev) rw_W_add 81 Q K → K 0 [some (xR o), some (xI a0), some (xI a1), none, none] [] 81 h) : xq_met lev y_W_add [xR o, xI a0, xI a1] 81 h Q := xq_enterM (L0 := [some (xR o), some (xI a0), some (xI a1), none, none]) rfl ok_W_add rfl (by decide +kernel) rfl hlev (Nat.le_of_ble_eq_true rfl) rfl body
theorem en_W_numberOf {lev : Nat} {h : xq_H} {Q : Option xq_V → xq_H → Prop} {o : Nat} {a0 : Int} (hlev : 1 ≤ lev) (body : ∀ K : xq_KT, xq_sound (xq_C lev) rw_W_numberOf 81 Q K → K 0 [some (xR o), some (xI a0), none] [] 81 h) : xq_met lev y_W_numberOf [xR o, xI a0] 81 h Q := xq_enterM (L0 := [some (xR o), some (xI a0), none]) rfl ok_W_numberOf rfl (by decide +kernel) rfl hlev (Nat.le_of_ble_eq_true rfl) rfl body
theorem en_W_begins {lev : Nat} {h : xq_H} {Q : Option xq_V → xq_H → Prop} {o : Nat} {a0 : Int} {a1 : Int} (hlev : 1 ≤ lev) (body : ∀ K : xq_KT, xq_sound (xq_C lev) rw_W_begins 81 Q K → K 0 [some (xR o), some (xI a0), some (xI a1), none] [] 81 h) : xq_met lev y_W_begins [xR o, xI a0, xI a1] 81 h Q := xq_enterM (L0 := [some (xR o), some (xI a0), some (xI a1), none]) rfl ok_W_begins rfl (by decide +kernel) rfl hlev (Nat.le_of_ble_eq_true rfl) rfl body
theorem en_W_aheadOf {lev : Nat} {h : xq_H} {Q : Option xq_V → xq_H → Prop} {o : Nat} {a0 : Int} {a1 : Int} (hlev : 1 ≤ lev) (body : ∀ K : xq_KT, xq_sound (xq_C lev) rw_W_aheadOf 81 Q K → K 0 [some (xR o), some (xI a0), some (xI a1), none, none, none] [] 81 h) : xq_met lev y_W_aheadOf [xR o, xI a0, xI a1] 81 h Q := xq_enterM (L0 := [some (xR o), some (xI a0), some (xI a1), none, none, none]) rfl ok_W_aheadOf rfl (by decide +kernel) rfl hlev (Nat.le_of_ble_eq_true rfl) rfl body
theorem en_W_copy {lev : Nat} {h : xq_H} {Q : Option xq_V → xq_H → Prop} {o : Nat} {a0 : Nat} (hlev : 1 ≤ lev) (body : ∀ K : xq_KT, xq_sound (xq_C lev) rw_W_copy 81 Q K → K 0 [some (xR o), some (xR a0)] [] 81 h) : xq_met lev y_W_copy [xR o, xR a0] 81 h Q := xq_enterM (L0 := [some (xR o), some (xR a0)]) rfl ok_W_copy rfl (by decide +kernel) rfl hlev (Nat.le_of_ble_eq_true rfl) rfl body
theorem en_X_feed {lev : Nat} {h : xq_H} {Q : Option xq_V → xq_H → Prop} {o : Nat} {a0 : Int} (hlev : 1 ≤ lev) (body : ∀ K : xq_KT, xq_sound (xq_C lev) rw_X_feed 81 Q K → K 0 [some (xR o), some (xI a0)] [] 81 h) : xq_met lev y_X_feed [xR o, xI a0] 81 h Q := xq_enterM (L0 := [some (xR o), some (xI a0)]) rfl ok_X_feed rfl (by decide +kernel) rfl hlev (Nat.le_of_ble_eq_true rfl) rfl body
theorem en_X_telephone {lev : Nat} {h : xq_H} {Q : Option xq_V → xq_H → Prop} {o : Nat} (hlev : 1 ≤ lev) (body : ∀ K : xq_KT, xq_sound (xq_C lev) rw_X_telephone 81 Q K → K 0 [some (xR o), none] [] 81 h) : xq_met lev y_X_telephone [xR o] 81 h Q := xq_enterM (L0 := [some (xR o), none]) rfl ok_X_telephone rfl (by decide +kernel) rfl hlev (Nat.le_of_ble_eq_true rfl) rfl body
theorem en_X_word {lev : Nat} {h : xq_H} {Q : Option xq_V → xq_H → Prop} {o : Nat} {a0 : Int} {a1 : Int} (hlev : 1 ≤ lev) (body : ∀ K : xq_KT, xq_sound (xq_C lev) rw_X_word 81 Q K → K 0 [some (xR o), some (xI a0), some (xI a1)] [] 81 h) : xq_met lev y_X_word [xR o, xI a0, xI a1] 81 h Q := xq_enterM (L0 := [some (xR o), some (xI a0), some (xI a1)]) rfl ok_X_word rfl (by decide +kernel) rfl hlev (Nat.le_of_ble_eq_true rfl) rfl body
theorem en_X_listed {lev : Nat} {h : xq_H} {Q : Option xq_V → xq_H → Prop} {o : Nat} {a0 : Int} {a1 : Int} (hlev : 1 ≤ lev) (body : ∀ K : xq_KT, xq_sound (xq_C lev) rw_X_listed 81 Q K → K 0 [some (xR o), some (xI a0), some (xI a1)] [] 81 h) : xq_met lev y_X_listed [xR o, xI a0, xI a1] 81 h Q := xq_enterM (L0 := [some (xR o), some (xI a0), some (xI a1)]) rfl ok_X_listed rfl (by decide +kernel) rfl hlev (Nat.le_of_ble_eq_true rfl) rfl body
theorem en_X_weigh {lev : Nat} {h : xq_H} {Q : Option xq_V → xq_H → Prop} {o : Nat} {a0 : Int} {a1 : Int} (hlev : 1 ≤ lev) (body : ∀ K : xq_KT, xq_sound (xq_C lev) rw_X_weigh 81 Q K → K 0 [some (xR o), some (xI a0), some (xI a1), none] [] 81 h) : xq_met lev y_X_weigh [xR o, xI a0, xI a1] 81 h Q := xq_enterM (L0 := [some (xR o), some (xI a0), some (xI a1), none]) rfl ok_X_weigh rfl (by decide +kernel) rfl hlev (Nat.le_of_ble_eq_true rfl) rfl body
theorem en_X_behind {lev : Nat} {h : xq_H} {Q : Option xq_V → xq_H → Prop} {o : Nat} {a0 : Int} {a1 : Int} {a2 : Int} (hlev : 1 ≤ lev) (body : ∀ K : xq_KT, xq_sound (xq_C lev) rw_X_behind 81 Q K → K 0 [some (xR o), some (xI a0), some (xI a1), some (xI a2), none, none] [] 81 h) : xq_met lev y_X_behind [xR o, xI a0, xI a1, xI a2] 81 h Q := xq_enterM (L0 := [some (xR o), some (xI a0), some (xI a1), some (xI a2), none, none]) rfl ok_X_behind rfl (by decide +kernel) rfl hlev (Nat.le_of_ble_eq_true rfl) rfl body
theorem en_X_mender {lev : Nat} {h : xq_H} {Q : Option xq_V → xq_H → Prop} {o : Nat} {a0 : Int} {a1 : Int} (hlev : 1 ≤ lev) (body : ∀ K : xq_KT, xq_sound (xq_C lev) rw_X_mender 81 Q K → K 0 [some (xR o), some (xI a0), some (xI a1)] [] 81 h) : xq_met lev y_X_mender [xR o, xI a0, xI a1] 81 h Q := xq_enterM (L0 := [some (xR o), some (xI a0), some (xI a1)]) rfl ok_X_mender rfl (by decide +kernel) rfl hlev (Nat.le_of_ble_eq_true rfl) rfl body
theorem en_X_of {lev : Nat} {h : xq_H} {Q : Option xq_V → xq_H → Prop} {o : Nat} {a0 : Int} {a1 : Int} (hlev : 1 ≤ lev) (body : ∀ K : xq_KT, xq_sound (xq_C lev) rw_X_of 81 Q K → K 0 [some (xR o), some (xI a0), some (xI a1)] [] 81 h) : xq_met lev y_X_of [xR o, xI a0, xI a1] 81 h Q := xq_enterM (L0 := [some (xR o), some (xI a0), some (xI a1)]) rfl ok_X_of rfl (by decide +kernel) rfl hlev (Nat.le_of_ble_eq_true rfl) rfl body
theorem en_X_row {lev : Nat} {h : xq_H} {Q : Option xq_V → xq_H → Prop} {o : Nat} {a0 : Int} {a1 : Int} {a2 : Int} (hlev : 1 ≤ lev) (body : ∀ K : xq_KT, xq_sound (xq_C lev) rw_X_row 81 Q K → K 0 [some (xR o), some (xI a0), some (xI a1), some (xI a2), none, none] [] 81 h) : xq_met lev y_X_row [xR o, xI a0, xI a1, xI a2] 81 h Q := xq_enterM (L0 := [some (xR o), some (xI a0), some (xI a1), some (xI a2), none, none]) rfl ok_X_row rfl (by decide +kernel) rfl hlev (Nat.le_of_ble_eq_true rfl) rfl body
theorem en_X_type {lev : Nat} {h : xq_H} {Q : Option xq_V → xq_H → Prop} {o : Nat} {a0 : Int} {a1 : Int} (hlev : 1 ≤ lev) (body : ∀ K : xq_KT, xq_sound (xq_C lev) rw_X_type 81 Q K → K 0 [some (xR o), some (xI a0), some (xI a1), none] [] 81 h) : xq_met lev y_X_type [xR o, xI a0, xI a1] 81 h Q := xq_enterM (L0 := [some (xR o), some (xI a0), some (xI a1), none]) rfl ok_X_type rfl (by decide +kernel) rfl hlev (Nat.le_of_ble_eq_true rfl) rfl body
theorem en_X_back {lev : Nat} {h : xq_H} {Q : Option xq_V → xq_H → Prop} {o : Nat} (hlev : 1 ≤ lev) (body : ∀ K : xq_KT, xq_sound (xq_C lev) rw_X_back 81 Q K → K 0 [some (xR o)] [] 81 h) : xq_met lev y_X_back [xR o] 81 h Q := xq_enterM (L0 := [some (xR o)]) rfl ok_X_back rfl (by decide +kernel) rfl hlev (Nat.le_of_ble_eq_true rfl) rfl body
theorem en_X_send {lev : Nat} {h : xq_H} {Q : Option xq_V → xq_H → Prop} {o : Nat} (hlev : 1 ≤ lev) (body : ∀ K : xq_KT, xq_sound (xq_C lev) rw_X_send 81 Q K → K 0 [some (xR o), none] [] 81 h) : xq_met lev y_X_send [xR o] 81 h Q := xq_enterM (L0 := [some (xR o), none]) rfl ok_X_send rfl (by decide +kernel) rfl hlev (Nat.le_of_ble_eq_true rfl) rfl body
theorem en_X_told {lev : Nat} {h : xq_H} {Q : Option xq_V → xq_H → Prop} {o : Nat} {a0 : Int} (hlev : 1 ≤ lev) (body : ∀ K : xq_KT, xq_sound (xq_C lev) rw_X_told 81 Q K → K 0 [some (xR o), some (xI a0), none] [] 81 h) : xq_met lev y_X_told [xR o, xI a0] 81 h Q := xq_enterM (L0 := [some (xR o), some (xI a0), none]) rfl ok_X_told rfl (by decide +kernel) rfl hlev (Nat.le_of_ble_eq_true rfl) rfl body
theorem en_X_makes {lev : Nat} {h : xq_H} {Q : Option xq_V → xq_H → Prop} {o : Nat} {a0 : Int} {a1 : Int} (hlev : 1 ≤ lev) (body : ∀ K : xq_KT, xq_sound (xq_C lev) rw_X_makes 81 Q K → K 0 [some (xR o), some (xI a0), some (xI a1), none] [] 81 h) : xq_met lev y_X_makes [xR o, xI a0, xI a1] 81 h Q := xq_enterM (L0 := [some (xR o), some (xI a0), some (xI a1), none]) rfl ok_X_makes rfl (by decide +kernel) rfl hlev (Nat.le_of_ble_eq_true rfl) rfl body
theorem en_X_cost {lev : Nat} {h : xq_H} {Q : Option xq_V → xq_H → Prop} {o : Nat} {a0 : Int} {a1 : Int} {a2 : Int} {a3 : Int} (hlev : 1 ≤ lev) (body : ∀ K : xq_KT, xq_sound (xq_C lev) rw_X_cost 81 Q K → K 0 [some (xR o), some (xI a0), some (xI a1), some (xI a2), some (xI a3)] [] 81 h) : xq_met lev y_X_cost [xR o, xI a0, xI a1, xI a2, xI a3] 81 h Q := xq_enterM (L0 := [some (xR o), some (xI a0), some (xI a1), some (xI a2), some (xI a3)]) rfl ok_X_cost rfl (by decide +kernel) rfl hlev (Nat.le_of_ble_eq_true rfl) rfl body
theorem en_X_stays {lev : Nat} {h : xq_H} {Q : Option xq_V → xq_H → Prop} {o : Nat} {a0 : Int} (hlev : 1 ≤ lev) (body : ∀ K : xq_KT, xq_sound (xq_C lev) rw_X_stays 81 Q K → K 0 [some (xR o), some (xI a0), none, none] [] 81 h) : xq_met lev y_X_stays [xR o, xI a0] 81 h Q := xq_enterM (L0 := [some (xR o), some (xI a0), none, none]) rfl ok_X_stays rfl (by decide +kernel) rfl hlev (Nat.le_of_ble_eq_true rfl) rfl body
theorem en_X_touches {lev : Nat} {h : xq_H} {Q : Option xq_V → xq_H → Prop} {o : Nat} {a0 : Int} {a1 : Int} {a2 : Int} (hlev : 1 ≤ lev) (body : ∀ K : xq_KT, xq_sound (xq_C lev) rw_X_touches 81 Q K → K 0 [some (xR o), some (xI a0), some (xI a1), some (xI a2), none, none, none] [] 81 h) : xq_met lev y_X_touches [xR o, xI a0, xI a1, xI a2] 81 h Q := xq_enterM (L0 := [some (xR o), some (xI a0), some (xI a1), some (xI a2), none, none, none]) rfl ok_X_touches rfl (by decide +kernel) rfl hlev (Nat.le_of_ble_eq_true rfl) rfl body
theorem en_X_never {lev : Nat} {h : xq_H} {Q : Option xq_V → xq_H → Prop} {o : Nat} {a0 : Int} (hlev : 1 ≤ lev) (body : ∀ K : xq_KT, xq_sound (xq_C lev) rw_X_never 81 Q K → K 0 [some (xR o), some (xI a0), none, none] [] 81 h) : xq_met lev y_X_never [xR o, xI a0] 81 h Q := xq_enterM (L0 := [some (xR o), some (xI a0), none, none]) rfl ok_X_never rfl (by decide +kernel) rfl hlev (Nat.le_of_ble_eq_true rfl) rfl body
theorem en_X_round {lev : Nat} {h : xq_H} {Q : Option xq_V → xq_H → Prop} {o : Nat} {a0 : Int} {a1 : Int} {a2 : Int} (hlev : 1 ≤ lev) (body : ∀ K : xq_KT, xq_sound (xq_C lev) rw_X_round 81 Q K → K 0 [some (xR o), some (xI a0), some (xI a1), some (xI a2), none, none] [] 81 h) : xq_met lev y_X_round [xR o, xI a0, xI a1, xI a2] 81 h Q := xq_enterM (L0 := [some (xR o), some (xI a0), some (xI a1), some (xI a2), none, none]) rfl ok_X_round rfl (by decide +kernel) rfl hlev (Nat.le_of_ble_eq_true rfl) rfl body
theorem en_X_stands {lev : Nat} {h : xq_H} {Q : Option xq_V → xq_H → Prop} {o : Nat} {a0 : Int} {a1 : Int} (hlev : 1 ≤ lev) (body : ∀ K : xq_KT, xq_sound (xq_C lev) rw_X_stands 81 Q K → K 0 [some (xR o), some (xI a0), some (xI a1), none, none] [] 81 h) : xq_met lev y_X_stands [xR o, xI a0, xI a1] 81 h Q := xq_enterM (L0 := [some (xR o), some (xI a0), some (xI a1), none, none]) rfl ok_X_stands rfl (by decide +kernel) rfl hlev (Nat.le_of_ble_eq_true rfl) rfl body
theorem en_X_guess {lev : Nat} {h : xq_H} {Q : Option xq_V → xq_H → Prop} {o : Nat} {a0 : Int} {a1 : Int} (hlev : 1 ≤ lev) (body : ∀ K : xq_KT, xq_sound (xq_C lev) rw_X_guess 81 Q K → K 0 [some (xR o), some (xI a0), some (xI a1), none] [] 81 h) : xq_met lev y_X_guess [xR o, xI a0, xI a1] 81 h Q := xq_enterM (L0 := [some (xR o), some (xI a0), some (xI a1), none]) rfl ok_X_guess rfl (by decide +kernel) rfl hlev (Nat.le_of_ble_eq_true rfl) rfl body
theorem en_X_letter {lev : Nat} {h : xq_H} {Q : Option xq_V → xq_H → Prop} {o : Nat} {a0 : Int} (hlev : 1 ≤ lev) (body : ∀ K : xq_KT, xq_sound (xq_C lev) rw_X_letter 81 Q K → K 0 [some (xR o), some (xI a0), none, none] [] 81 h) : xq_met lev y_X_letter [xR o, xI a0] 81 h Q := xq_enterM (L0 := [some (xR o), some (xI a0), none, none]) rfl ok_X_letter rfl (by decide +kernel) rfl hlev (Nat.le_of_ble_eq_true rfl) rfl body
theorem en_X_enough {lev : Nat} {h : xq_H} {Q : Option xq_V → xq_H → Prop} {o : Nat} {a0 : Int} {a1 : Int} (hlev : 1 ≤ lev) (body : ∀ K : xq_KT, xq_sound (xq_C lev) rw_X_enough 81 Q K → K 0 [some (xR o), some (xI a0), some (xI a1), none] [] 81 h) : xq_met lev y_X_enough [xR o, xI a0, xI a1] 81 h Q := xq_enterM (L0 := [some (xR o), some (xI a0), some (xI a1), none]) rfl ok_X_enough rfl (by decide +kernel) rfl hlev (Nat.le_of_ble_eq_true rfl) rfl body
theorem en_X_slips {lev : Nat} {h : xq_H} {Q : Option xq_V → xq_H → Prop} {o : Nat} {a0 : Int} {a1 : Int} {a2 : Int} (hlev : 1 ≤ lev) (body : ∀ K : xq_KT, xq_sound (xq_C lev) rw_X_slips 81 Q K → K 0 [some (xR o), some (xI a0), some (xI a1), some (xI a2)] [] 81 h) : xq_met lev y_X_slips [xR o, xI a0, xI a1, xI a2] 81 h Q := xq_enterM (L0 := [some (xR o), some (xI a0), some (xI a1), some (xI a2)]) rfl ok_X_slips rfl (by decide +kernel) rfl hlev (Nat.le_of_ble_eq_true rfl) rfl body
theorem en_X_wrong {lev : Nat} {h : xq_H} {Q : Option xq_V → xq_H → Prop} {o : Nat} {a0 : Int} {a1 : Int} (hlev : 1 ≤ lev) (body : ∀ K : xq_KT, xq_sound (xq_C lev) rw_X_wrong 81 Q K → K 0 [some (xR o), some (xI a0), some (xI a1)] [] 81 h) : xq_met lev y_X_wrong [xR o, xI a0, xI a1] 81 h Q := xq_enterM (L0 := [some (xR o), some (xI a0), some (xI a1)]) rfl ok_X_wrong rfl (by decide +kernel) rfl hlev (Nat.le_of_ble_eq_true rfl) rfl body
theorem en_X_chain {lev : Nat} {h : xq_H} {Q : Option xq_V → xq_H → Prop} {o : Nat} {a0 : Int} {a1 : Int} {a2 : Int} (hlev : 1 ≤ lev) (body : ∀ K : xq_KT, xq_sound (xq_C lev) rw_X_chain 81 Q K → K 0 [some (xR o), some (xI a0), some (xI a1), some (xI a2), none] [] 81 h) : xq_met lev y_X_chain [xR o, xI a0, xI a1, xI a2] 81 h Q := xq_enterM (L0 := [some (xR o), some (xI a0), some (xI a1), some (xI a2), none]) rfl ok_X_chain rfl (by decide +kernel) rfl hlev (Nat.le_of_ble_eq_true rfl) rfl body
theorem en_X_meant {lev : Nat} {h : xq_H} {Q : Option xq_V → xq_H → Prop} {o : Nat} {a0 : Int} {a1 : Int} (hlev : 1 ≤ lev) (body : ∀ K : xq_KT, xq_sound (xq_C lev) rw_X_meant 81 Q K → K 0 [some (xR o), some (xI a0), some (xI a1), none, none, none] [] 81 h) : xq_met lev y_X_meant [xR o, xI a0, xI a1] 81 h Q := xq_enterM (L0 := [some (xR o), some (xI a0), some (xI a1), none, none, none]) rfl ok_X_meant rfl (by decide +kernel) rfl hlev (Nat.le_of_ble_eq_true rfl) rfl body
theorem en_X_likeliest {lev : Nat} {h : xq_H} {Q : Option xq_V → xq_H → Prop} {o : Nat} {a0 : Int} {a1 : Int} (hlev : 1 ≤ lev) (body : ∀ K : xq_KT, xq_sound (xq_C lev) rw_X_likeliest 81 Q K → K 0 [some (xR o), some (xI a0), some (xI a1), none, none, none, none, none] [] 81 h) : xq_met lev y_X_likeliest [xR o, xI a0, xI a1] 81 h Q := xq_enterM (L0 := [some (xR o), some (xI a0), some (xI a1), none, none, none, none, none]) rfl ok_X_likeliest rfl (by decide +kernel) rfl hlev (Nat.le_of_ble_eq_true rfl) rfl body
theorem en_X_who {lev : Nat} {h : xq_H} {Q : Option xq_V → xq_H → Prop} {o : Nat} {a0 : Int} {a1 : Int} (hlev : 1 ≤ lev) (body : ∀ K : xq_KT, xq_sound (xq_C lev) rw_X_who 81 Q K → K 0 [some (xR o), some (xI a0), some (xI a1), none, none] [] 81 h) : xq_met lev y_X_who [xR o, xI a0, xI a1] 81 h Q := xq_enterM (L0 := [some (xR o), some (xI a0), some (xI a1), none, none]) rfl ok_X_who rfl (by decide +kernel) rfl hlev (Nat.le_of_ble_eq_true rfl) rfl body
theorem en_X_twins {lev : Nat} {h : xq_H} {Q : Option xq_V → xq_H → Prop} {o : Nat} (hlev : 1 ≤ lev) (body : ∀ K : xq_KT, xq_sound (xq_C lev) rw_X_twins 81 Q K → K 0 [some (xR o), none, none, none, none, none] [] 81 h) : xq_met lev y_X_twins [xR o] 81 h Q := xq_enterM (L0 := [some (xR o), none, none, none, none, none]) rfl ok_X_twins rfl (by decide +kernel) rfl hlev (Nat.le_of_ble_eq_true rfl) rfl body
theorem en_X_room {lev : Nat} {h : xq_H} {Q : Option xq_V → xq_H → Prop} {o : Nat} {a0 : Int} (hlev : 1 ≤ lev) (body : ∀ K : xq_KT, xq_sound (xq_C lev) rw_X_room 81 Q K → K 0 [some (xR o), some (xI a0)] [] 81 h) : xq_met lev y_X_room [xR o, xI a0] 81 h Q := xq_enterM (L0 := [some (xR o), some (xI a0)]) rfl ok_X_room rfl (by decide +kernel) rfl hlev (Nat.le_of_ble_eq_true rfl) rfl body
theorem en_X_saved {lev : Nat} {h : xq_H} {Q : Option xq_V → xq_H → Prop} {o : Nat} {a0 : Int} (hlev : 1 ≤ lev) (body : ∀ K : xq_KT, xq_sound (xq_C lev) rw_X_saved 81 Q K → K 0 [some (xR o), some (xI a0), none, none] [] 81 h) : xq_met lev y_X_saved [xR o, xI a0] 81 h Q := xq_enterM (L0 := [some (xR o), some (xI a0), none, none]) rfl ok_X_saved rfl (by decide +kernel) rfl hlev (Nat.le_of_ble_eq_true rfl) rfl body
theorem en_X_book {lev : Nat} {h : xq_H} {Q : Option xq_V → xq_H → Prop} {o : Nat} {a0 : Int} {a1 : Int} {a2 : Int} (hlev : 1 ≤ lev) (body : ∀ K : xq_KT, xq_sound (xq_C lev) rw_X_book 81 Q K → K 0 [some (xR o), some (xI a0), some (xI a1), some (xI a2)] [] 81 h) : xq_met lev y_X_book [xR o, xI a0, xI a1, xI a2] 81 h Q := xq_enterM (L0 := [some (xR o), some (xI a0), some (xI a1), some (xI a2)]) rfl ok_X_book rfl (by decide +kernel) rfl hlev (Nat.le_of_ble_eq_true rfl) rfl body
theorem en_X_looked {lev : Nat} {h : xq_H} {Q : Option xq_V → xq_H → Prop} {o : Nat} (hlev : 1 ≤ lev) (body : ∀ K : xq_KT, xq_sound (xq_C lev) rw_X_looked 81 Q K → K 0 [some (xR o), none, none] [] 81 h) : xq_met lev y_X_looked [xR o] 81 h Q := xq_enterM (L0 := [some (xR o), none, none]) rfl ok_X_looked rfl (by decide +kernel) rfl hlev (Nat.le_of_ble_eq_true rfl) rfl body
theorem en_X_act {lev : Nat} {h : xq_H} {Q : Option xq_V → xq_H → Prop} {o : Nat} {a0 : Int} {a1 : Int} {a2 : Int} (hlev : 1 ≤ lev) (body : ∀ K : xq_KT, xq_sound (xq_C lev) rw_X_act 81 Q K → K 0 [some (xR o), some (xI a0), some (xI a1), some (xI a2)] [] 81 h) : xq_met lev y_X_act [xR o, xI a0, xI a1, xI a2] 81 h Q := xq_enterM (L0 := [some (xR o), some (xI a0), some (xI a1), some (xI a2)]) rfl ok_X_act rfl (by decide +kernel) rfl hlev (Nat.le_of_ble_eq_true rfl) rfl body
theorem en_X_trace {lev : Nat} {h : xq_H} {Q : Option xq_V → xq_H → Prop} {o : Nat} {a0 : Int} (hlev : 1 ≤ lev) (body : ∀ K : xq_KT, xq_sound (xq_C lev) rw_X_trace 81 Q K → K 0 [some (xR o), some (xI a0)] [] 81 h) : xq_met lev y_X_trace [xR o, xI a0] 81 h Q := xq_enterM (L0 := [some (xR o), some (xI a0)]) rfl ok_X_trace rfl (by decide +kernel) rfl hlev (Nat.le_of_ble_eq_true rfl) rfl body
theorem en_X_as {lev : Nat} {h : xq_H} {Q : Option xq_V → xq_H → Prop} {o : Nat} {a0 : Int} {a1 : Int} (hlev : 1 ≤ lev) (body : ∀ K : xq_KT, xq_sound (xq_C lev) rw_X_as 81 Q K → K 0 [some (xR o), some (xI a0), some (xI a1)] [] 81 h) : xq_met lev y_X_as [xR o, xI a0, xI a1] 81 h Q := xq_enterM (L0 := [some (xR o), some (xI a0), some (xI a1)]) rfl ok_X_as rfl (by decide +kernel) rfl hlev (Nat.le_of_ble_eq_true rfl) rfl body
theorem en_X_image {lev : Nat} {h : xq_H} {Q : Option xq_V → xq_H → Prop} {o : Nat} (hlev : 1 ≤ lev) (body : ∀ K : xq_KT, xq_sound (xq_C lev) rw_X_image 81 Q K → K 0 [some (xR o)] [] 81 h) : xq_met lev y_X_image [xR o] 81 h Q := xq_enterM (L0 := [some (xR o)]) rfl ok_X_image rfl (by decide +kernel) rfl hlev (Nat.le_of_ble_eq_true rfl) rfl body
theorem en_X_undo {lev : Nat} {h : xq_H} {Q : Option xq_V → xq_H → Prop} {o : Nat} (hlev : 1 ≤ lev) (body : ∀ K : xq_KT, xq_sound (xq_C lev) rw_X_undo 81 Q K → K 0 [some (xR o)] [] 81 h) : xq_met lev y_X_undo [xR o] 81 h Q := xq_enterM (L0 := [some (xR o)]) rfl ok_X_undo rfl (by decide +kernel) rfl hlev (Nat.le_of_ble_eq_true rfl) rfl body
theorem en_X_count {lev : Nat} {h : xq_H} {Q : Option xq_V → xq_H → Prop} {o : Nat} {a0 : Int} (hlev : 1 ≤ lev) (body : ∀ K : xq_KT, xq_sound (xq_C lev) rw_X_count 81 Q K → K 0 [some (xR o), some (xI a0)] [] 81 h) : xq_met lev y_X_count [xR o, xI a0] 81 h Q := xq_enterM (L0 := [some (xR o), some (xI a0)]) rfl ok_X_count rfl (by decide +kernel) rfl hlev (Nat.le_of_ble_eq_true rfl) rfl body
theorem en_X_refusalOf {lev : Nat} {h : xq_H} {Q : Option xq_V → xq_H → Prop} {o : Nat} {a0 : Int} {a1 : Int} (hlev : 1 ≤ lev) (body : ∀ K : xq_KT, xq_sound (xq_C lev) rw_X_refusalOf 81 Q K → K 0 [some (xR o), some (xI a0), some (xI a1)] [] 81 h) : xq_met lev y_X_refusalOf [xR o, xI a0, xI a1] 81 h Q := xq_enterM (L0 := [some (xR o), some (xI a0), some (xI a1)]) rfl ok_X_refusalOf rfl (by decide +kernel) rfl hlev (Nat.le_of_ble_eq_true rfl) rfl body
theorem en_X_staysOne {lev : Nat} {h : xq_H} {Q : Option xq_V → xq_H → Prop} {o : Nat} {a0 : Int} {a1 : Int} (hlev : 1 ≤ lev) (body : ∀ K : xq_KT, xq_sound (xq_C lev) rw_X_staysOne 81 Q K → K 0 [some (xR o), some (xI a0), some (xI a1), none] [] 81 h) : xq_met lev y_X_staysOne [xR o, xI a0, xI a1] 81 h Q := xq_enterM (L0 := [some (xR o), some (xI a0), some (xI a1), none]) rfl ok_X_staysOne rfl (by decide +kernel) rfl hlev (Nat.le_of_ble_eq_true rfl) rfl body
theorem en_X_wayTo {lev : Nat} {h : xq_H} {Q : Option xq_V → xq_H → Prop} {o : Nat} {a0 : Int} {a1 : Int} (hlev : 1 ≤ lev) (body : ∀ K : xq_KT, xq_sound (xq_C lev) rw_X_wayTo 81 Q K → K 0 [some (xR o), some (xI a0), some (xI a1), none] [] 81 h) : xq_met lev y_X_wayTo [xR o, xI a0, xI a1] 81 h Q := xq_enterM (L0 := [some (xR o), some (xI a0), some (xI a1), none]) rfl ok_X_wayTo rfl (by decide +kernel) rfl hlev (Nat.le_of_ble_eq_true rfl) rfl body
theorem en_X_shortWays {lev : Nat} {h : xq_H} {Q : Option xq_V → xq_H → Prop} {o : Nat} {a0 : Int} (hlev : 1 ≤ lev) (body : ∀ K : xq_KT, xq_sound (xq_C lev) rw_X_shortWays 81 Q K → K 0 [some (xR o), some (xI a0), none, none, none] [] 81 h) : xq_met lev y_X_shortWays [xR o, xI a0] 81 h Q := xq_enterM (L0 := [some (xR o), some (xI a0), none, none, none]) rfl ok_X_shortWays rfl (by decide +kernel) rfl hlev (Nat.le_of_ble_eq_true rfl) rfl body
theorem en_X_runChain {lev : Nat} {h : xq_H} {Q : Option xq_V → xq_H → Prop} {o : Nat} {a0 : Int} {a1 : Int} (hlev : 1 ≤ lev) (body : ∀ K : xq_KT, xq_sound (xq_C lev) rw_X_runChain 81 Q K → K 0 [some (xR o), some (xI a0), some (xI a1), none, none, none, none, none, none] [] 81 h) : xq_met lev y_X_runChain [xR o, xI a0, xI a1] 81 h Q := xq_enterM (L0 := [some (xR o), some (xI a0), some (xI a1), none, none, none, none, none, none]) rfl ok_X_runChain rfl (by decide +kernel) rfl hlev (Nat.le_of_ble_eq_true rfl) rfl body
theorem en_X_waysFrom {lev : Nat} {h : xq_H} {Q : Option xq_V → xq_H → Prop} {o : Nat} {a0 : Int} {a1 : Int} {a2 : Int} (hlev : 1 ≤ lev) (body : ∀ K : xq_KT, xq_sound (xq_C lev) rw_X_waysFrom 81 Q K → K 0 [some (xR o), some (xI a0), some (xI a1), some (xI a2), none, none] [] 81 h) : xq_met lev y_X_waysFrom [xR o, xI a0, xI a1, xI a2] 81 h Q := xq_enterM (L0 := [some (xR o), some (xI a0), some (xI a1), some (xI a2), none, none]) rfl ok_X_waysFrom rfl (by decide +kernel) rfl hlev (Nat.le_of_ble_eq_true rfl) rfl body
theorem en_X_isAt {lev : Nat} {h : xq_H} {Q : Option xq_V → xq_H → Prop} {a0 : Int} {a1 : Int} (hlev : 1 ≤ lev) (body : ∀ K : xq_KT, xq_sound (xq_C lev) rw_X_isAt 81 Q K → K 0 [some (xI a0), some (xI a1)] [] 81 h) : xq_met lev y_X_isAt [xI a0, xI a1] 81 h Q := xq_enterM (L0 := [some (xI a0), some (xI a1)]) rfl ok_X_isAt rfl (by decide +kernel) rfl hlev (Nat.le_of_ble_eq_true rfl) rfl body
theorem en_X_copyInts {lev : Nat} {h : xq_H} {Q : Option xq_V → xq_H → Prop} {a0 : Nat} {a1 : Nat} (hlev : 1 ≤ lev) (body : ∀ K : xq_KT, xq_sound (xq_C lev) rw_X_copyInts 81 Q K → K 0 [some (xR a0), some (xR a1), none, none] [] 81 h) : xq_met lev y_X_copyInts [xR a0, xR a1] 81 h Q := xq_enterM (L0 := [some (xR a0), some (xR a1), none, none]) rfl ok_X_copyInts rfl (by decide +kernel) rfl hlev (Nat.le_of_ble_eq_true rfl) rfl body
theorem en_X_unlikeOf {lev : Nat} {h : xq_H} {Q : Option xq_V → xq_H → Prop} {a0 : Nat} {a1 : Int} (hlev : 1 ≤ lev) (body : ∀ K : xq_KT, xq_sound (xq_C lev) rw_X_unlikeOf 81 Q K → K 0 [some (xR a0), some (xI a1), none, none, none, none] [] 81 h) : xq_met lev y_X_unlikeOf [xR a0, xI a1] 81 h Q := xq_enterM (L0 := [some (xR a0), some (xI a1), none, none, none, none]) rfl ok_X_unlikeOf rfl (by decide +kernel) rfl hlev (Nat.le_of_ble_eq_true rfl) rfl body
theorem en_X_isUnder {lev : Nat} {h : xq_H} {Q : Option xq_V → xq_H → Prop} {a0 : Int} {a1 : Int} (hlev : 1 ≤ lev) (body : ∀ K : xq_KT, xq_sound (xq_C lev) rw_X_isUnder 81 Q K → K 0 [some (xI a0), some (xI a1), none, none] [] 81 h) : xq_met lev y_X_isUnder [xI a0, xI a1] 81 h Q := xq_enterM (L0 := [some (xI a0), some (xI a1), none, none]) rfl ok_X_isUnder rfl (by decide +kernel) rfl hlev (Nat.le_of_ble_eq_true rfl) rfl body
theorem en_X_isWord {lev : Nat} {h : xq_H} {Q : Option xq_V → xq_H → Prop} {a0 : Int} (hlev : 1 ≤ lev) (body : ∀ K : xq_KT, xq_sound (xq_C lev) rw_X_isWord 81 Q K → K 0 [some (xI a0)] [] 81 h) : xq_met lev y_X_isWord [xI a0] 81 h Q := xq_enterM (L0 := [some (xI a0)]) rfl ok_X_isWord rfl (by decide +kernel) rfl hlev (Nat.le_of_ble_eq_true rfl) rfl body
theorem en_X_lettersOf {lev : Nat} {h : xq_H} {Q : Option xq_V → xq_H → Prop} {a0 : Int} (hlev : 1 ≤ lev) (body : ∀ K : xq_KT, xq_sound (xq_C lev) rw_X_lettersOf 81 Q K → K 0 [some (xI a0), none, none, none] [] 81 h) : xq_met lev y_X_lettersOf [xI a0] 81 h Q := xq_enterM (L0 := [some (xI a0), none, none, none]) rfl ok_X_lettersOf rfl (by decide +kernel) rfl hlev (Nat.le_of_ble_eq_true rfl) rfl body
theorem en_X_withoutLast {lev : Nat} {h : xq_H} {Q : Option xq_V → xq_H → Prop} {a0 : Int} {a1 : Int} (hlev : 1 ≤ lev) (body : ∀ K : xq_KT, xq_sound (xq_C lev) rw_X_withoutLast 81 Q K → K 0 [some (xI a0), some (xI a1), none, none] [] 81 h) : xq_met lev y_X_withoutLast [xI a0, xI a1] 81 h Q := xq_enterM (L0 := [some (xI a0), some (xI a1), none, none]) rfl ok_X_withoutLast rfl (by decide +kernel) rfl hlev (Nat.le_of_ble_eq_true rfl) rfl body
theorem en_X_isNear {lev : Nat} {h : xq_H} {Q : Option xq_V → xq_H → Prop} {a0 : Int} {a1 : Int} (hlev : 1 ≤ lev) (body : ∀ K : xq_KT, xq_sound (xq_C lev) rw_X_isNear 81 Q K → K 0 [some (xI a0), some (xI a1), none] [] 81 h) : xq_met lev y_X_isNear [xI a0, xI a1] 81 h Q := xq_enterM (L0 := [some (xI a0), some (xI a1), none]) rfl ok_X_isNear rfl (by decide +kernel) rfl hlev (Nat.le_of_ble_eq_true rfl) rfl body
theorem en_X_slipsOf {lev : Nat} {h : xq_H} {Q : Option xq_V → xq_H → Prop} {a0 : Int} (hlev : 1 ≤ lev) (body : ∀ K : xq_KT, xq_sound (xq_C lev) rw_X_slipsOf 81 Q K → K 0 [some (xI a0), none, none, none, none] [] 81 h) : xq_met lev y_X_slipsOf [xI a0] 81 h Q := xq_enterM (L0 := [some (xI a0), none, none, none, none]) rfl ok_X_slipsOf rfl (by decide +kernel) rfl hlev (Nat.le_of_ble_eq_true rfl) rfl body
theorem en_X_partOf {lev : Nat} {h : xq_H} {Q : Option xq_V → xq_H → Prop} {a0 : Int} {a1 : Int} {a2 : Int} (hlev : 1 ≤ lev) (body : ∀ K : xq_KT, xq_sound (xq_C lev) rw_X_partOf 81 Q K → K 0 [some (xI a0), some (xI a1), some (xI a2), none, none, none, none] [] 81 h) : xq_met lev y_X_partOf [xI a0, xI a1, xI a2] 81 h Q := xq_enterM (L0 := [some (xI a0), some (xI a1), some (xI a2), none, none, none, none]) rfl ok_X_partOf rfl (by decide +kernel) rfl hlev (Nat.le_of_ble_eq_true rfl) rfl body
theorem en_M_in {lev : Nat} {h : xq_H} {Q : Option xq_V → xq_H → Prop} {a0 : Int} {a1 : Int} {a2 : Int} (hlev : 1 ≤ lev) (body : ∀ K : xq_KT, xq_sound (xq_C lev) rw_M_in 81 Q K → K 0 [some (xI a0), some (xI a1), some (xI a2)] [] 81 h) : xq_met lev y_M_in [xI a0, xI a1, xI a2] 81 h Q := xq_enterM (L0 := [some (xI a0), some (xI a1), some (xI a2)]) rfl ok_M_in rfl (by decide +kernel) rfl hlev (Nat.le_of_ble_eq_true rfl) rfl body
theorem en_M_isMender {lev : Nat} {h : xq_H} {Q : Option xq_V → xq_H → Prop} {o : Nat} {a0 : Int} (hlev : 1 ≤ lev) (body : ∀ K : xq_KT, xq_sound (xq_C lev) rw_M_isMender 81 Q K → K 0 [some (xR o), some (xI a0)] [] 81 h) : xq_met lev y_M_isMender [xR o, xI a0] 81 h Q := xq_enterM (L0 := [some (xR o), some (xI a0)]) rfl ok_M_isMender rfl (by decide +kernel) rfl hlev (Nat.le_of_ble_eq_true rfl) rfl body
theorem en_M_isListed {lev : Nat} {h : xq_H} {Q : Option xq_V → xq_H → Prop} {o : Nat} {a0 : Int} (hlev : 1 ≤ lev) (body : ∀ K : xq_KT, xq_sound (xq_C lev) rw_M_isListed 81 Q K → K 0 [some (xR o), some (xI a0)] [] 81 h) : xq_met lev y_M_isListed [xR o, xI a0] 81 h Q := xq_enterM (L0 := [some (xR o), some (xI a0)]) rfl ok_M_isListed rfl (by decide +kernel) rfl hlev (Nat.le_of_ble_eq_true rfl) rfl body
theorem en_M_isWord {lev : Nat} {h : xq_H} {Q : Option xq_V → xq_H → Prop} {a0 : Int} (hlev : 1 ≤ lev) (body : ∀ K : xq_KT, xq_sound (xq_C lev) rw_M_isWord 81 Q K → K 0 [some (xI a0), none, none] [] 81 h) : xq_met lev y_M_isWord [xI a0] 81 h Q := xq_enterM (L0 := [some (xI a0), none, none]) rfl ok_M_isWord rfl (by decide +kernel) rfl hlev (Nat.le_of_ble_eq_true rfl) rfl body
theorem en_M_size {lev : Nat} {h : xq_H} {Q : Option xq_V → xq_H → Prop} {a0 : Int} (hlev : 1 ≤ lev) (body : ∀ K : xq_KT, xq_sound (xq_C lev) rw_M_size 81 Q K → K 0 [some (xI a0), none, none] [] 81 h) : xq_met lev y_M_size [xI a0] 81 h Q := xq_enterM (L0 := [some (xI a0), none, none]) rfl ok_M_size rfl (by decide +kernel) rfl hlev (Nat.le_of_ble_eq_true rfl) rfl body
theorem en_M_first {lev : Nat} {h : xq_H} {Q : Option xq_V → xq_H → Prop} {a0 : Int} {a1 : Int} (hlev : 1 ≤ lev) (body : ∀ K : xq_KT, xq_sound (xq_C lev) rw_M_first 81 Q K → K 0 [some (xI a0), some (xI a1), none, none] [] 81 h) : xq_met lev y_M_first [xI a0, xI a1] 81 h Q := xq_enterM (L0 := [some (xI a0), some (xI a1), none, none]) rfl ok_M_first rfl (by decide +kernel) rfl hlev (Nat.le_of_ble_eq_true rfl) rfl body
theorem en_M_keeps {lev : Nat} {h : xq_H} {Q : Option xq_V → xq_H → Prop} {o : Nat} (hlev : 1 ≤ lev) (body : ∀ K : xq_KT, xq_sound (xq_C lev) rw_M_keeps 81 Q K → K 0 [some (xR o), none] [] 81 h) : xq_met lev y_M_keeps [xR o] 81 h Q := xq_enterM (L0 := [some (xR o), none]) rfl ok_M_keeps rfl (by decide +kernel) rfl hlev (Nat.le_of_ble_eq_true rfl) rfl body
theorem en_M_goesBack {lev : Nat} {h : xq_H} {Q : Option xq_V → xq_H → Prop} {o : Nat} (hlev : 1 ≤ lev) (body : ∀ K : xq_KT, xq_sound (xq_C lev) rw_M_goesBack 81 Q K → K 0 [some (xR o), none] [] 81 h) : xq_met lev y_M_goesBack [xR o] 81 h Q := xq_enterM (L0 := [some (xR o), none]) rfl ok_M_goesBack rfl (by decide +kernel) rfl hlev (Nat.le_of_ble_eq_true rfl) rfl body
theorem en_M_feed {lev : Nat} {h : xq_H} {Q : Option xq_V → xq_H → Prop} {o : Nat} {a0 : Int} (hlev : 1 ≤ lev) (body : ∀ K : xq_KT, xq_sound (xq_C lev) rw_M_feed 81 Q K → K 0 [some (xR o), some (xI a0)] [] 81 h) : xq_met lev y_M_feed [xR o, xI a0] 81 h Q := xq_enterM (L0 := [some (xR o), some (xI a0)]) rfl ok_M_feed rfl (by decide +kernel) rfl hlev (Nat.le_of_ble_eq_true rfl) rfl body
theorem en_M_here {lev : Nat} {h : xq_H} {Q : Option xq_V → xq_H → Prop} {o : Nat} (hlev : 1 ≤ lev) (body : ∀ K : xq_KT, xq_sound (xq_C lev) rw_M_here 81 Q K → K 0 [some (xR o)] [] 81 h) : xq_met lev y_M_here [xR o] 81 h Q := xq_enterM (L0 := [some (xR o)]) rfl ok_M_here rfl (by decide +kernel) rfl hlev (Nat.le_of_ble_eq_true rfl) rfl body
theorem en_M_must {lev : Nat} {h : xq_H} {Q : Option xq_V → xq_H → Prop} {o : Nat} {a0 : Int} (hlev : 1 ≤ lev) (body : ∀ K : xq_KT, xq_sound (xq_C lev) rw_M_must 81 Q K → K 0 [some (xR o), some (xI a0)] [] 81 h) : xq_met lev y_M_must [xR o, xI a0] 81 h Q := xq_enterM (L0 := [some (xR o), some (xI a0)]) rfl ok_M_must rfl (by decide +kernel) rfl hlev (Nat.le_of_ble_eq_true rfl) rfl body
theorem en_M_spells {lev : Nat} {h : xq_H} {Q : Option xq_V → xq_H → Prop} {o : Nat} {a0 : Nat} (hlev : 1 ≤ lev) (body : ∀ K : xq_KT, xq_sound (xq_C lev) rw_M_spells 81 Q K → K 0 [some (xR o), some (xR a0), none] [] 81 h) : xq_met lev y_M_spells [xR o, xR a0] 81 h Q := xq_enterM (L0 := [some (xR o), some (xR a0), none]) rfl ok_M_spells rfl (by decide +kernel) rfl hlev (Nat.le_of_ble_eq_true rfl) rfl body
theorem en_M_figures {lev : Nat} {h : xq_H} {Q : Option xq_V → xq_H → Prop} {o : Nat} (hlev : 1 ≤ lev) (body : ∀ K : xq_KT, xq_sound (xq_C lev) rw_M_figures 81 Q K → K 0 [some (xR o), none, none] [] 81 h) : xq_met lev y_M_figures [xR o] 81 h Q := xq_enterM (L0 := [some (xR o), none, none]) rfl ok_M_figures rfl (by decide +kernel) rfl hlev (Nat.le_of_ble_eq_true rfl) rfl body
theorem en_M_among {lev : Nat} {h : xq_H} {Q : Option xq_V → xq_H → Prop} {o : Nat} {a0 : Nat} (hlev : 1 ≤ lev) (body : ∀ K : xq_KT, xq_sound (xq_C lev) rw_M_among 81 Q K → K 0 [some (xR o), some (xR a0), none] [] 81 h) : xq_met lev y_M_among [xR o, xR a0] 81 h Q := xq_enterM (L0 := [some (xR o), some (xR a0), none]) rfl ok_M_among rfl (by decide +kernel) rfl hlev (Nat.le_of_ble_eq_true rfl) rfl body
theorem en_M_emits {lev : Nat} {h : xq_H} {Q : Option xq_V → xq_H → Prop} {o : Nat} {a0 : Int} (hlev : 1 ≤ lev) (body : ∀ K : xq_KT, xq_sound (xq_C lev) rw_M_emits 81 Q K → K 0 [some (xR o), some (xI a0)] [] 81 h) : xq_met lev y_M_emits [xR o, xI a0] 81 h Q := xq_enterM (L0 := [some (xR o), some (xI a0)]) rfl ok_M_emits rfl (by decide +kernel) rfl hlev (Nat.le_of_ble_eq_true rfl) rfl body
theorem en_M_factor {lev : Nat} {h : xq_H} {Q : Option xq_V → xq_H → Prop} {o : Nat} (hlev : 1 ≤ lev) (body : ∀ K : xq_KT, xq_sound (xq_C lev) rw_M_factor 81 Q K → K 0 [some (xR o), none, none, none, none] [] 81 h) : xq_met lev y_M_factor [xR o] 81 h Q := xq_enterM (L0 := [some (xR o), none, none, none, none]) rfl ok_M_factor rfl (by decide +kernel) rfl hlev (Nat.le_of_ble_eq_true rfl) rfl body
theorem en_M_every {lev : Nat} {h : xq_H} {Q : Option xq_V → xq_H → Prop} {o : Nat} (hlev : 1 ≤ lev) (body : ∀ K : xq_KT, xq_sound (xq_C lev) rw_M_every 81 Q K → K 0 [some (xR o)] [] 81 h) : xq_met lev y_M_every [xR o] 81 h Q := xq_enterM (L0 := [some (xR o)]) rfl ok_M_every rfl (by decide +kernel) rfl hlev (Nat.le_of_ble_eq_true rfl) rfl body
theorem en_M_some {lev : Nat} {h : xq_H} {Q : Option xq_V → xq_H → Prop} {o : Nat} (hlev : 1 ≤ lev) (body : ∀ K : xq_KT, xq_sound (xq_C lev) rw_M_some 81 Q K → K 0 [some (xR o)] [] 81 h) : xq_met lev y_M_some [xR o] 81 h Q := xq_enterM (L0 := [some (xR o)]) rfl ok_M_some rfl (by decide +kernel) rfl hlev (Nat.le_of_ble_eq_true rfl) rfl body
theorem en_M_much {lev : Nat} {h : xq_H} {Q : Option xq_V → xq_H → Prop} {o : Nat} {a0 : Int} {a1 : Nat} (hlev : 1 ≤ lev) (body : ∀ K : xq_KT, xq_sound (xq_C lev) rw_M_much 81 Q K → K 0 [some (xR o), some (xI a0), some (xR a1), none] [] 81 h) : xq_met lev y_M_much [xR o, xI a0, xR a1] 81 h Q := xq_enterM (L0 := [some (xR o), some (xI a0), some (xR a1), none]) rfl ok_M_much rfl (by decide +kernel) rfl hlev (Nat.le_of_ble_eq_true rfl) rfl body
theorem en_M_tellsHere {lev : Nat} {h : xq_H} {Q : Option xq_V → xq_H → Prop} {o : Nat} {a0 : Int} {a1 : Nat} (hlev : 1 ≤ lev) (body : ∀ K : xq_KT, xq_sound (xq_C lev) rw_M_tellsHere 81 Q K → K 0 [some (xR o), some (xI a0), some (xR a1), none] [] 81 h) : xq_met lev y_M_tellsHere [xR o, xI a0, xR a1] 81 h Q := xq_enterM (L0 := [some (xR o), some (xI a0), some (xR a1), none]) rfl ok_M_tellsHere rfl (by decide +kernel) rfl hlev (Nat.le_of_ble_eq_true rfl) rfl body
theorem en_M_clauseHere {lev : Nat} {h : xq_H} {Q : Option xq_V → xq_H → Prop} {o : Nat} (hlev : 1 ≤ lev) (body : ∀ K : xq_KT, xq_sound (xq_C lev) rw_M_clauseHere 81 Q K → K 0 [some (xR o)] [] 81 h) : xq_met lev y_M_clauseHere [xR o] 81 h Q := xq_enterM (L0 := [some (xR o)]) rfl ok_M_clauseHere rfl (by decide +kernel) rfl hlev (Nat.le_of_ble_eq_true rfl) rfl body
theorem en_M_telephone {lev : Nat} {h : xq_H} {Q : Option xq_V → xq_H → Prop} {o : Nat} (hlev : 1 ≤ lev) (body : ∀ K : xq_KT, xq_sound (xq_C lev) rw_M_telephone 81 Q K → K 0 [some (xR o), none] [] 81 h) : xq_met lev y_M_telephone [xR o] 81 h Q := xq_enterM (L0 := [some (xR o), none]) rfl ok_M_telephone rfl (by decide +kernel) rfl hlev (Nat.le_of_ble_eq_true rfl) rfl body
theorem en_M_tellsOf {lev : Nat} {h : xq_H} {Q : Option xq_V → xq_H → Prop} {o : Nat} {a0 : Int} {a1 : Int} (hlev : 1 ≤ lev) (body : ∀ K : xq_KT, xq_sound (xq_C lev) rw_M_tellsOf 81 Q K → K 0 [some (xR o), some (xI a0), some (xI a1)] [] 81 h) : xq_met lev y_M_tellsOf [xR o, xI a0, xI a1] 81 h Q := xq_enterM (L0 := [some (xR o), some (xI a0), some (xI a1)]) rfl ok_M_tellsOf rfl (by decide +kernel) rfl hlev (Nat.le_of_ble_eq_true rfl) rfl body
theorem en_M_looks {lev : Nat} {h : xq_H} {Q : Option xq_V → xq_H → Prop} {o : Nat} {a0 : Int} {a1 : Int} {a2 : Int} (hlev : 1 ≤ lev) (body : ∀ K : xq_KT, xq_sound (xq_C lev) rw_M_looks 81 Q K → K 0 [some (xR o), some (xI a0), some (xI a1), some (xI a2), none, none, none, none, none, none, none, none, none] [] 81 h) : xq_met lev y_M_looks [xR o, xI a0, xI a1, xI a2] 81 h Q := xq_enterM (L0 := [some (xR o), some (xI a0), some (xI a1), some (xI a2), none, none, none, none, none, none, none, none, none]) rfl ok_M_looks rfl (by decide +kernel) rfl hlev (Nat.le_of_ble_eq_true rfl) rfl body
theorem en_M_indexOf {lev : Nat} {h : xq_H} {Q : Option xq_V → xq_H → Prop} {o : Nat} {a0 : Int} (hlev : 1 ≤ lev) (body : ∀ K : xq_KT, xq_sound (xq_C lev) rw_M_indexOf 81 Q K → K 0 [some (xR o), some (xI a0), none] [] 81 h) : xq_met lev y_M_indexOf [xR o, xI a0] 81 h Q := xq_enterM (L0 := [some (xR o), some (xI a0), none]) rfl ok_M_indexOf rfl (by decide +kernel) rfl hlev (Nat.le_of_ble_eq_true rfl) rfl body
theorem en_M_word {lev : Nat} {h : xq_H} {Q : Option xq_V → xq_H → Prop} {o : Nat} {a0 : Int} {a1 : Int} (hlev : 1 ≤ lev) (body : ∀ K : xq_KT, xq_sound (xq_C lev) rw_M_word 81 Q K → K 0 [some (xR o), some (xI a0), some (xI a1), none, none] [] 81 h) : xq_met lev y_M_word [xR o, xI a0, xI a1] 81 h Q := xq_enterM (L0 := [some (xR o), some (xI a0), some (xI a1), none, none]) rfl ok_M_word rfl (by decide +kernel) rfl hlev (Nat.le_of_ble_eq_true rfl) rfl body
theorem en_M_listed {lev : Nat} {h : xq_H} {Q : Option xq_V → xq_H → Prop} {o : Nat} {a0 : Int} {a1 : Int} (hlev : 1 ≤ lev) (body : ∀ K : xq_KT, xq_sound (xq_C lev) rw_M_listed 81 Q K → K 0 [some (xR o), some (xI a0), some (xI a1)] [] 81 h) : xq_met lev y_M_listed [xR o, xI a0, xI a1] 81 h Q := xq_enterM (L0 := [some (xR o), some (xI a0), some (xI a1)]) rfl ok_M_listed rfl (by decide +kernel) rfl hlev (Nat.le_of_ble_eq_true rfl) rfl body
theorem en_M_weigh {lev : Nat} {h : xq_H} {Q : Option xq_V → xq_H → Prop} {o : Nat} {a0 : Int} {a1 : Int} (hlev : 1 ≤ lev) (body : ∀ K : xq_KT, xq_sound (xq_C lev) rw_M_weigh 81 Q K → K 0 [some (xR o), some (xI a0), some (xI a1), none] [] 81 h) : xq_met lev y_M_weigh [xR o, xI a0, xI a1] 81 h Q := xq_enterM (L0 := [some (xR o), some (xI a0), some (xI a1), none]) rfl ok_M_weigh rfl (by decide +kernel) rfl hlev (Nat.le_of_ble_eq_true rfl) rfl body
theorem en_M_behind {lev : Nat} {h : xq_H} {Q : Option xq_V → xq_H → Prop} {o : Nat} {a0 : Int} {a1 : Int} {a2 : Int} (hlev : 1 ≤ lev) (body : ∀ K : xq_KT, xq_sound (xq_C lev) rw_M_behind 81 Q K → K 0 [some (xR o), some (xI a0), some (xI a1), some (xI a2), none] [] 81 h) : xq_met lev y_M_behind [xR o, xI a0, xI a1, xI a2] 81 h Q := xq_enterM (L0 := [some (xR o), some (xI a0), some (xI a1), some (xI a2), none]) rfl ok_M_behind rfl (by decide +kernel) rfl hlev (Nat.le_of_ble_eq_true rfl) rfl body
theorem en_M_mender {lev : Nat} {h : xq_H} {Q : Option xq_V → xq_H → Prop} {o : Nat} {a0 : Int} {a1 : Int} (hlev : 1 ≤ lev) (body : ∀ K : xq_KT, xq_sound (xq_C lev) rw_M_mender 81 Q K → K 0 [some (xR o), some (xI a0), some (xI a1), none, none] [] 81 h) : xq_met lev y_M_mender [xR o, xI a0, xI a1] 81 h Q := xq_enterM (L0 := [some (xR o), some (xI a0), some (xI a1), none, none]) rfl ok_M_mender rfl (by decide +kernel) rfl hlev (Nat.le_of_ble_eq_true rfl) rfl body
theorem en_M_of {lev : Nat} {h : xq_H} {Q : Option xq_V → xq_H → Prop} {o : Nat} {a0 : Int} {a1 : Int} (hlev : 1 ≤ lev) (body : ∀ K : xq_KT, xq_sound (xq_C lev) rw_M_of 81 Q K → K 0 [some (xR o), some (xI a0), some (xI a1)] [] 81 h) : xq_met lev y_M_of [xR o, xI a0, xI a1] 81 h Q := xq_enterM (L0 := [some (xR o), some (xI a0), some (xI a1)]) rfl ok_M_of rfl (by decide +kernel) rfl hlev (Nat.le_of_ble_eq_true rfl) rfl body
theorem en_M_row {lev : Nat} {h : xq_H} {Q : Option xq_V → xq_H → Prop} {o : Nat} {a0 : Int} {a1 : Int} {a2 : Int} (hlev : 1 ≤ lev) (body : ∀ K : xq_KT, xq_sound (xq_C lev) rw_M_row 81 Q K → K 0 [some (xR o), some (xI a0), some (xI a1), some (xI a2), none] [] 81 h) : xq_met lev y_M_row [xR o, xI a0, xI a1, xI a2] 81 h Q := xq_enterM (L0 := [some (xR o), some (xI a0), some (xI a1), some (xI a2), none]) rfl ok_M_row rfl (by decide +kernel) rfl hlev (Nat.le_of_ble_eq_true rfl) rfl body
theorem en_M_areNear {lev : Nat} {h : xq_H} {Q : Option xq_V → xq_H → Prop} {a0 : Int} {a1 : Int} (hlev : 1 ≤ lev) (body : ∀ K : xq_KT, xq_sound (xq_C lev) rw_M_areNear 81 Q K → K 0 [some (xI a0), some (xI a1), none, none] [] 81 h) : xq_met lev y_M_areNear [xI a0, xI a1] 81 h Q := xq_enterM (L0 := [some (xI a0), some (xI a1), none, none]) rfl ok_M_areNear rfl (by decide +kernel) rfl hlev (Nat.le_of_ble_eq_true rfl) rfl body
theorem en_M_spellsInto {lev : Nat} {h : xq_H} {Q : Option xq_V → xq_H → Prop} {a0 : Int} {a1 : Nat} (hlev : 1 ≤ lev) (body : ∀ K : xq_KT, xq_sound (xq_C lev) rw_M_spellsInto 81 Q K → K 0 [some (xI a0), some (xR a1), none, none, none] [] 81 h) : xq_met lev y_M_spellsInto [xI a0, xR a1] 81 h Q := xq_enterM (L0 := [some (xI a0), some (xR a1), none, none, none]) rfl ok_M_spellsInto rfl (by decide +kernel) rfl hlev (Nat.le_of_ble_eq_true rfl) rfl body
theorem en_M_lesser {lev : Nat} {h : xq_H} {Q : Option xq_V → xq_H → Prop} {a0 : Int} {a1 : Int} (hlev : 1 ≤ lev) (body : ∀ K : xq_KT, xq_sound (xq_C lev) rw_M_lesser 81 Q K → K 0 [some (xI a0), some (xI a1)] [] 81 h) : xq_met lev y_M_lesser [xI a0, xI a1] 81 h Q := xq_enterM (L0 := [some (xI a0), some (xI a1)]) rfl ok_M_lesser rfl (by decide +kernel) rfl hlev (Nat.le_of_ble_eq_true rfl) rfl body
theorem en_M_changes {lev : Nat} {h : xq_H} {Q : Option xq_V → xq_H → Prop} {o : Nat} {a0 : Int} {a1 : Int} {a2 : Int} (hlev : 1 ≤ lev) (body : ∀ K : xq_KT, xq_sound (xq_C lev) rw_M_changes 81 Q K → K 0 [some (xR o), some (xI a0), some (xI a1), some (xI a2), none, none, none, none, none, none] [] 81 h) : xq_met lev y_M_changes [xR o, xI a0, xI a1, xI a2] 81 h Q := xq_enterM (L0 := [some (xR o), some (xI a0), some (xI a1), some (xI a2), none, none, none, none, none, none]) rfl ok_M_changes rfl (by decide +kernel) rfl hlev (Nat.le_of_ble_eq_true rfl) rfl body
theorem en_M_farOf {lev : Nat} {h : xq_H} {Q : Option xq_V → xq_H → Prop} {o : Nat} {a0 : Int} {a1 : Int} {a2 : Int} (hlev : 1 ≤ lev) (body : ∀ K : xq_KT, xq_sound (xq_C lev) rw_M_farOf 81 Q K → K 0 [some (xR o), some (xI a0), some (xI a1), some (xI a2), none, none] [] 81 h) : xq_met lev y_M_farOf [xR o, xI a0, xI a1, xI a2] 81 h Q := xq_enterM (L0 := [some (xR o), some (xI a0), some (xI a1), some (xI a2), none, none]) rfl ok_M_farOf rfl (by decide +kernel) rfl hlev (Nat.le_of_ble_eq_true rfl) rfl body
theorem en_M_looksFor {lev : Nat} {h : xq_H} {Q : Option xq_V → xq_H → Prop} {o : Nat} {a0 : Int} {a1 : Int} (hlev : 1 ≤ lev) (body : ∀ K : xq_KT, xq_sound (xq_C lev) rw_M_looksFor 81 Q K → K 0 [some (xR o), some (xI a0), some (xI a1), none] [] 81 h) : xq_met lev y_M_looksFor [xR o, xI a0, xI a1] 81 h Q := xq_enterM (L0 := [some (xR o), some (xI a0), some (xI a1), none]) rfl ok_M_looksFor rfl (by decide +kernel) rfl hlev (Nat.le_of_ble_eq_true rfl) rfl body
theorem en_M_costOf {lev : Nat} {h : xq_H} {Q : Option xq_V → xq_H → Prop} {o : Nat} {a0 : Int} {a1 : Int} {a2 : Int} (hlev : 1 ≤ lev) (body : ∀ K : xq_KT, xq_sound (xq_C lev) rw_M_costOf 81 Q K → K 0 [some (xR o), some (xI a0), some (xI a1), some (xI a2), none, none, none] [] 81 h) : xq_met lev y_M_costOf [xR o, xI a0, xI a1, xI a2] 81 h Q := xq_enterM (L0 := [some (xR o), some (xI a0), some (xI a1), some (xI a2), none, none, none]) rfl ok_M_costOf rfl (by decide +kernel) rfl hlev (Nat.le_of_ble_eq_true rfl) rfl body
theorem en_M_isLeft {lev : Nat} {h : xq_H} {Q : Option xq_V → xq_H → Prop} {o : Nat} {a0 : Int} (hlev : 1 ≤ lev) (body : ∀ K : xq_KT, xq_sound (xq_C lev) rw_M_isLeft 81 Q K → K 0 [some (xR o), some (xI a0), none, none] [] 81 h) : xq_met lev y_M_isLeft [xR o, xI a0] 81 h Q := xq_enterM (L0 := [some (xR o), some (xI a0), none, none]) rfl ok_M_isLeft rfl (by decide +kernel) rfl hlev (Nat.le_of_ble_eq_true rfl) rfl body
theorem en_M_madeOf {lev : Nat} {h : xq_H} {Q : Option xq_V → xq_H → Prop} {o : Nat} {a0 : Int} {a1 : Int} (hlev : 1 ≤ lev) (body : ∀ K : xq_KT, xq_sound (xq_C lev) rw_M_madeOf 81 Q K → K 0 [some (xR o), some (xI a0), some (xI a1), none, none, none, none, none] [] 81 h) : xq_met lev y_M_madeOf [xR o, xI a0, xI a1] 81 h Q := xq_enterM (L0 := [some (xR o), some (xI a0), some (xI a1), none, none, none, none, none]) rfl ok_M_madeOf rfl (by decide +kernel) rfl hlev (Nat.le_of_ble_eq_true rfl) rfl body
theorem en_M_makesOf {lev : Nat} {h : xq_H} {Q : Option xq_V → xq_H → Prop} {o : Nat} {a0 : Int} {a1 : Int} (hlev : 1 ≤ lev) (body : ∀ K : xq_KT, xq_sound (xq_C lev) rw_M_makesOf 81 Q K → K 0 [some (xR o), some (xI a0), some (xI a1)] [] 81 h) : xq_met lev y_M_makesOf [xR o, xI a0, xI a1] 81 h Q := xq_enterM (L0 := [some (xR o), some (xI a0), some (xI a1)]) rfl ok_M_makesOf rfl (by decide +kernel) rfl hlev (Nat.le_of_ble_eq_true rfl) rfl body
theorem en_M_types {lev : Nat} {h : xq_H} {Q : Option xq_V → xq_H → Prop} {o : Nat} {a0 : Int} {a1 : Int} (hlev : 1 ≤ lev) (body : ∀ K : xq_KT, xq_sound (xq_C lev) rw_M_types 81 Q K → K 0 [some (xR o), some (xI a0), some (xI a1), none, none] [] 81 h) : xq_met lev y_M_types [xR o, xI a0, xI a1] 81 h Q := xq_enterM (L0 := [some (xR o), some (xI a0), some (xI a1), none, none]) rfl ok_M_types rfl (by decide +kernel) rfl hlev (Nat.le_of_ble_eq_true rfl) rfl body
theorem en_M_type {lev : Nat} {h : xq_H} {Q : Option xq_V → xq_H → Prop} {o : Nat} {a0 : Int} {a1 : Int} (hlev : 1 ≤ lev) (body : ∀ K : xq_KT, xq_sound (xq_C lev) rw_M_type 81 Q K → K 0 [some (xR o), some (xI a0), some (xI a1), none] [] 81 h) : xq_met lev y_M_type [xR o, xI a0, xI a1] 81 h Q := xq_enterM (L0 := [some (xR o), some (xI a0), some (xI a1), none]) rfl ok_M_type rfl (by decide +kernel) rfl hlev (Nat.le_of_ble_eq_true rfl) rfl body
theorem en_M_back {lev : Nat} {h : xq_H} {Q : Option xq_V → xq_H → Prop} {o : Nat} (hlev : 1 ≤ lev) (body : ∀ K : xq_KT, xq_sound (xq_C lev) rw_M_back 81 Q K → K 0 [some (xR o), none, none] [] 81 h) : xq_met lev y_M_back [xR o] 81 h Q := xq_enterM (L0 := [some (xR o), none, none]) rfl ok_M_back rfl (by decide +kernel) rfl hlev (Nat.le_of_ble_eq_true rfl) rfl body
theorem en_M_send {lev : Nat} {h : xq_H} {Q : Option xq_V → xq_H → Prop} {o : Nat} (hlev : 1 ≤ lev) (body : ∀ K : xq_KT, xq_sound (xq_C lev) rw_M_send 81 Q K → K 0 [some (xR o), none] [] 81 h) : xq_met lev y_M_send [xR o] 81 h Q := xq_enterM (L0 := [some (xR o), none]) rfl ok_M_send rfl (by decide +kernel) rfl hlev (Nat.le_of_ble_eq_true rfl) rfl body
theorem en_M_told {lev : Nat} {h : xq_H} {Q : Option xq_V → xq_H → Prop} {o : Nat} {a0 : Int} (hlev : 1 ≤ lev) (body : ∀ K : xq_KT, xq_sound (xq_C lev) rw_M_told 81 Q K → K 0 [some (xR o), some (xI a0)] [] 81 h) : xq_met lev y_M_told [xR o, xI a0] 81 h Q := xq_enterM (L0 := [some (xR o), some (xI a0)]) rfl ok_M_told rfl (by decide +kernel) rfl hlev (Nat.le_of_ble_eq_true rfl) rfl body
theorem en_M_makes {lev : Nat} {h : xq_H} {Q : Option xq_V → xq_H → Prop} {o : Nat} {a0 : Int} {a1 : Int} (hlev : 1 ≤ lev) (body : ∀ K : xq_KT, xq_sound (xq_C lev) rw_M_makes 81 Q K → K 0 [some (xR o), some (xI a0), some (xI a1)] [] 81 h) : xq_met lev y_M_makes [xR o, xI a0, xI a1] 81 h Q := xq_enterM (L0 := [some (xR o), some (xI a0), some (xI a1)]) rfl ok_M_makes rfl (by decide +kernel) rfl hlev (Nat.le_of_ble_eq_true rfl) rfl body
theorem en_M_cost {lev : Nat} {h : xq_H} {Q : Option xq_V → xq_H → Prop} {o : Nat} {a0 : Int} {a1 : Int} {a2 : Int} {a3 : Int} (hlev : 1 ≤ lev) (body : ∀ K : xq_KT, xq_sound (xq_C lev) rw_M_cost 81 Q K → K 0 [some (xR o), some (xI a0), some (xI a1), some (xI a2), some (xI a3), none] [] 81 h) : xq_met lev y_M_cost [xR o, xI a0, xI a1, xI a2, xI a3] 81 h Q := xq_enterM (L0 := [some (xR o), some (xI a0), some (xI a1), some (xI a2), some (xI a3), none]) rfl ok_M_cost rfl (by decide +kernel) rfl hlev (Nat.le_of_ble_eq_true rfl) rfl body
theorem en_M_staysOf {lev : Nat} {h : xq_H} {Q : Option xq_V → xq_H → Prop} {o : Nat} {a0 : Int} (hlev : 1 ≤ lev) (body : ∀ K : xq_KT, xq_sound (xq_C lev) rw_M_staysOf 81 Q K → K 0 [some (xR o), some (xI a0), none, none] [] 81 h) : xq_met lev y_M_staysOf [xR o, xI a0] 81 h Q := xq_enterM (L0 := [some (xR o), some (xI a0), none, none]) rfl ok_M_staysOf rfl (by decide +kernel) rfl hlev (Nat.le_of_ble_eq_true rfl) rfl body
theorem en_M_stays {lev : Nat} {h : xq_H} {Q : Option xq_V → xq_H → Prop} {o : Nat} {a0 : Int} (hlev : 1 ≤ lev) (body : ∀ K : xq_KT, xq_sound (xq_C lev) rw_M_stays 81 Q K → K 0 [some (xR o), some (xI a0)] [] 81 h) : xq_met lev y_M_stays [xR o, xI a0] 81 h Q := xq_enterM (L0 := [some (xR o), some (xI a0)]) rfl ok_M_stays rfl (by decide +kernel) rfl hlev (Nat.le_of_ble_eq_true rfl) rfl body
theorem en_M_looksForShort {lev : Nat} {h : xq_H} {Q : Option xq_V → xq_H → Prop} {o : Nat} {a0 : Int} (hlev : 1 ≤ lev) (body : ∀ K : xq_KT, xq_sound (xq_C lev) rw_M_looksForShort 81 Q K → K 0 [some (xR o), some (xI a0), none, none] [] 81 h) : xq_met lev y_M_looksForShort [xR o, xI a0] 81 h Q := xq_enterM (L0 := [some (xR o), some (xI a0), none, none]) rfl ok_M_looksForShort rfl (by decide +kernel) rfl hlev (Nat.le_of_ble_eq_true rfl) rfl body
theorem en_M_looksForTouches {lev : Nat} {h : xq_H} {Q : Option xq_V → xq_H → Prop} {o : Nat} {a0 : Int} {a1 : Int} (hlev : 1 ≤ lev) (body : ∀ K : xq_KT, xq_sound (xq_C lev) rw_M_looksForTouches 81 Q K → K 0 [some (xR o), some (xI a0), some (xI a1), none] [] 81 h) : xq_met lev y_M_looksForTouches [xR o, xI a0, xI a1] 81 h Q := xq_enterM (L0 := [some (xR o), some (xI a0), some (xI a1), none]) rfl ok_M_looksForTouches rfl (by decide +kernel) rfl hlev (Nat.le_of_ble_eq_true rfl) rfl body
theorem en_M_touches {lev : Nat} {h : xq_H} {Q : Option xq_V → xq_H → Prop} {o : Nat} {a0 : Int} {a1 : Int} {a2 : Int} (hlev : 1 ≤ lev) (body : ∀ K : xq_KT, xq_sound (xq_C lev) rw_M_touches 81 Q K → K 0 [some (xR o), some (xI a0), some (xI a1), some (xI a2)] [] 81 h) : xq_met lev y_M_touches [xR o, xI a0, xI a1, xI a2] 81 h Q := xq_enterM (L0 := [some (xR o), some (xI a0), some (xI a1), some (xI a2)]) rfl ok_M_touches rfl (by decide +kernel) rfl hlev (Nat.le_of_ble_eq_true rfl) rfl body
theorem en_M_never {lev : Nat} {h : xq_H} {Q : Option xq_V → xq_H → Prop} {o : Nat} {a0 : Int} (hlev : 1 ≤ lev) (body : ∀ K : xq_KT, xq_sound (xq_C lev) rw_M_never 81 Q K → K 0 [some (xR o), some (xI a0), none, none, none] [] 81 h) : xq_met lev y_M_never [xR o, xI a0] 81 h Q := xq_enterM (L0 := [some (xR o), some (xI a0), none, none, none]) rfl ok_M_never rfl (by decide +kernel) rfl hlev (Nat.le_of_ble_eq_true rfl) rfl body
theorem en_M_round {lev : Nat} {h : xq_H} {Q : Option xq_V → xq_H → Prop} {o : Nat} {a0 : Int} {a1 : Int} {a2 : Int} (hlev : 1 ≤ lev) (body : ∀ K : xq_KT, xq_sound (xq_C lev) rw_M_round 81 Q K → K 0 [some (xR o), some (xI a0), some (xI a1), some (xI a2), none, none] [] 81 h) : xq_met lev y_M_round [xR o, xI a0, xI a1, xI a2] 81 h Q := xq_enterM (L0 := [some (xR o), some (xI a0), some (xI a1), some (xI a2), none, none]) rfl ok_M_round rfl (by decide +kernel) rfl hlev (Nat.le_of_ble_eq_true rfl) rfl body
theorem en_M_stands {lev : Nat} {h : xq_H} {Q : Option xq_V → xq_H → Prop} {o : Nat} {a0 : Int} {a1 : Int} (hlev : 1 ≤ lev) (body : ∀ K : xq_KT, xq_sound (xq_C lev) rw_M_stands 81 Q K → K 0 [some (xR o), some (xI a0), some (xI a1), none, none] [] 81 h) : xq_met lev y_M_stands [xR o, xI a0, xI a1] 81 h Q := xq_enterM (L0 := [some (xR o), some (xI a0), some (xI a1), none, none]) rfl ok_M_stands rfl (by decide +kernel) rfl hlev (Nat.le_of_ble_eq_true rfl) rfl body
theorem en_M_begins {lev : Nat} {h : xq_H} {Q : Option xq_V → xq_H → Prop} {o : Nat} {a0 : Int} {a1 : Int} (hlev : 1 ≤ lev) (body : ∀ K : xq_KT, xq_sound (xq_C lev) rw_M_begins 81 Q K → K 0 [some (xR o), some (xI a0), some (xI a1), none] [] 81 h) : xq_met lev y_M_begins [xR o, xI a0, xI a1] 81 h Q := xq_enterM (L0 := [some (xR o), some (xI a0), some (xI a1), none]) rfl ok_M_begins rfl (by decide +kernel) rfl hlev (Nat.le_of_ble_eq_true rfl) rfl body
theorem en_M_aheadOf {lev : Nat} {h : xq_H} {Q : Option xq_V → xq_H → Prop} {o : Nat} {a0 : Int} {a1 : Int} (hlev : 1 ≤ lev) (body : ∀ K : xq_KT, xq_sound (xq_C lev) rw_M_aheadOf 81 Q K → K 0 [some (xR o), some (xI a0), some (xI a1), none, none] [] 81 h) : xq_met lev y_M_aheadOf [xR o, xI a0, xI a1] 81 h Q := xq_enterM (L0 := [some (xR o), some (xI a0), some (xI a1), none, none]) rfl ok_M_aheadOf rfl (by decide +kernel) rfl hlev (Nat.le_of_ble_eq_true rfl) rfl body
theorem en_M_guess {lev : Nat} {h : xq_H} {Q : Option xq_V → xq_H → Prop} {o : Nat} {a0 : Int} {a1 : Int} (hlev : 1 ≤ lev) (body : ∀ K : xq_KT, xq_sound (xq_C lev) rw_M_guess 81 Q K → K 0 [some (xR o), some (xI a0), some (xI a1), none] [] 81 h) : xq_met lev y_M_guess [xR o, xI a0, xI a1] 81 h Q := xq_enterM (L0 := [some (xR o), some (xI a0), some (xI a1), none]) rfl ok_M_guess rfl (by decide +kernel) rfl hlev (Nat.le_of_ble_eq_true rfl) rfl body
theorem en_M_letter {lev : Nat} {h : xq_H} {Q : Option xq_V → xq_H → Prop} {o : Nat} {a0 : Int} (hlev : 1 ≤ lev) (body : ∀ K : xq_KT, xq_sound (xq_C lev) rw_M_letter 81 Q K → K 0 [some (xR o), some (xI a0), none] [] 81 h) : xq_met lev y_M_letter [xR o, xI a0] 81 h Q := xq_enterM (L0 := [some (xR o), some (xI a0), none]) rfl ok_M_letter rfl (by decide +kernel) rfl hlev (Nat.le_of_ble_eq_true rfl) rfl body
theorem en_M_enough {lev : Nat} {h : xq_H} {Q : Option xq_V → xq_H → Prop} {o : Nat} {a0 : Int} {a1 : Int} (hlev : 1 ≤ lev) (body : ∀ K : xq_KT, xq_sound (xq_C lev) rw_M_enough 81 Q K → K 0 [some (xR o), some (xI a0), some (xI a1), none, none, none] [] 81 h) : xq_met lev y_M_enough [xR o, xI a0, xI a1] 81 h Q := xq_enterM (L0 := [some (xR o), some (xI a0), some (xI a1), none, none, none]) rfl ok_M_enough rfl (by decide +kernel) rfl hlev (Nat.le_of_ble_eq_true rfl) rfl body
theorem en_M_slipsFrom {lev : Nat} {h : xq_H} {Q : Option xq_V → xq_H → Prop} {o : Nat} {a0 : Int} {a1 : Int} {a2 : Int} (hlev : 1 ≤ lev) (body : ∀ K : xq_KT, xq_sound (xq_C lev) rw_M_slipsFrom 81 Q K → K 0 [some (xR o), some (xI a0), some (xI a1), some (xI a2), none, none, none] [] 81 h) : xq_met lev y_M_slipsFrom [xR o, xI a0, xI a1, xI a2] 81 h Q := xq_enterM (L0 := [some (xR o), some (xI a0), some (xI a1), some (xI a2), none, none, none]) rfl ok_M_slipsFrom rfl (by decide +kernel) rfl hlev (Nat.le_of_ble_eq_true rfl) rfl body
theorem en_M_lowest {lev : Nat} {h : xq_H} {Q : Option xq_V → xq_H → Prop} {a0 : Int} {a1 : Int} {a2 : Int} (hlev : 1 ≤ lev) (body : ∀ K : xq_KT, xq_sound (xq_C lev) rw_M_lowest 81 Q K → K 0 [some (xJ a0), none, some (xJ a1), none, some (xI a2), none, none, none, none, none, none] [] 81 h) : xq_met lev y_M_lowest [xJ a0, xJ a1, xI a2] 81 h Q := xq_enterM (L0 := [some (xJ a0), none, some (xJ a1), none, some (xI a2), none, none, none, none, none, none]) rfl ok_M_lowest rfl (by decide +kernel) rfl hlev (Nat.le_of_ble_eq_true rfl) rfl body
theorem en_M_slips {lev : Nat} {h : xq_H} {Q : Option xq_V → xq_H → Prop} {o : Nat} {a0 : Int} {a1 : Int} {a2 : Int} (hlev : 1 ≤ lev) (body : ∀ K : xq_KT, xq_sound (xq_C lev) rw_M_slips 81 Q K → K 0 [some (xR o), some (xI a0), some (xI a1), some (xI a2)] [] 81 h) : xq_met lev y_M_slips [xR o, xI a0, xI a1, xI a2] 81 h Q := xq_enterM (L0 := [some (xR o), some (xI a0), some (xI a1), some (xI a2)]) rfl ok_M_slips rfl (by decide +kernel) rfl hlev (Nat.le_of_ble_eq_true rfl) rfl body
theorem en_M_count1 {lev : Nat} {h : xq_H} {Q : Option xq_V → xq_H → Prop} {a0 : Int} (hlev : 1 ≤ lev) (body : ∀ K : xq_KT, xq_sound (xq_C lev) rw_M_count1 81 Q K → K 0 [some (xI a0), none, none] [] 81 h) : xq_met lev y_M_count1 [xI a0] 81 h Q := xq_enterM (L0 := [some (xI a0), none, none]) rfl ok_M_count1 rfl (by decide +kernel) rfl hlev (Nat.le_of_ble_eq_true rfl) rfl body
theorem en_M_wrong {lev : Nat} {h : xq_H} {Q : Option xq_V → xq_H → Prop} {o : Nat} {a0 : Int} {a1 : Int} (hlev : 1 ≤ lev) (body : ∀ K : xq_KT, xq_sound (xq_C lev) rw_M_wrong 81 Q K → K 0 [some (xR o), some (xI a0), some (xI a1)] [] 81 h) : xq_met lev y_M_wrong [xR o, xI a0, xI a1] 81 h Q := xq_enterM (L0 := [some (xR o), some (xI a0), some (xI a1)]) rfl ok_M_wrong rfl (by decide +kernel) rfl hlev (Nat.le_of_ble_eq_true rfl) rfl body
theorem en_M_unlike {lev : Nat} {h : xq_H} {Q : Option xq_V → xq_H → Prop} {o : Nat} (hlev : 1 ≤ lev) (body : ∀ K : xq_KT, xq_sound (xq_C lev) rw_M_unlike 81 Q K → K 0 [some (xR o), none, none, none, none] [] 81 h) : xq_met lev y_M_unlike [xR o] 81 h Q := xq_enterM (L0 := [some (xR o), none, none, none, none]) rfl ok_M_unlike rfl (by decide +kernel) rfl hlev (Nat.le_of_ble_eq_true rfl) rfl body
theorem en_M_goesRound {lev : Nat} {h : xq_H} {Q : Option xq_V → xq_H → Prop} {o : Nat} {a0 : Int} (hlev : 1 ≤ lev) (body : ∀ K : xq_KT, xq_sound (xq_C lev) rw_M_goesRound 81 Q K → K 0 [some (xR o), some (xI a0), none, none, none] [] 81 h) : xq_met lev y_M_goesRound [xR o, xI a0] 81 h Q := xq_enterM (L0 := [some (xR o), some (xI a0), none, none, none]) rfl ok_M_goesRound rfl (by decide +kernel) rfl hlev (Nat.le_of_ble_eq_true rfl) rfl body
theorem en_M_chain {lev : Nat} {h : xq_H} {Q : Option xq_V → xq_H → Prop} {o : Nat} {a0 : Int} {a1 : Int} {a2 : Int} (hlev : 1 ≤ lev) (body : ∀ K : xq_KT, xq_sound (xq_C lev) rw_M_chain 81 Q K → K 0 [some (xR o), some (xI a0), some (xI a1), some (xI a2), none, none] [] 81 h) : xq_met lev y_M_chain [xR o, xI a0, xI a1, xI a2] 81 h Q := xq_enterM (L0 := [some (xR o), some (xI a0), some (xI a1), some (xI a2), none, none]) rfl ok_M_chain rfl (by decide +kernel) rfl hlev (Nat.le_of_ble_eq_true rfl) rfl body
theorem en_M_waysOf {lev : Nat} {h : xq_H} {Q : Option xq_V → xq_H → Prop} {o : Nat} {a0 : Int} {a1 : Int} {a2 : Int} (hlev : 1 ≤ lev) (body : ∀ K : xq_KT, xq_sound (xq_C lev) rw_M_waysOf 81 Q K → K 0 [some (xR o), some (xI a0), some (xI a1), some (xI a2)] [] 81 h) : xq_met lev y_M_waysOf [xR o, xI a0, xI a1, xI a2] 81 h Q := xq_enterM (L0 := [some (xR o), some (xI a0), some (xI a1), some (xI a2)]) rfl ok_M_waysOf rfl (by decide +kernel) rfl hlev (Nat.le_of_ble_eq_true rfl) rfl body
theorem en_M_meant {lev : Nat} {h : xq_H} {Q : Option xq_V → xq_H → Prop} {o : Nat} {a0 : Int} {a1 : Int} (hlev : 1 ≤ lev) (body : ∀ K : xq_KT, xq_sound (xq_C lev) rw_M_meant 81 Q K → K 0 [some (xR o), some (xI a0), some (xI a1), none, none] [] 81 h) : xq_met lev y_M_meant [xR o, xI a0, xI a1] 81 h Q := xq_enterM (L0 := [some (xR o), some (xI a0), some (xI a1), none, none]) rfl ok_M_meant rfl (by decide +kernel) rfl hlev (Nat.le_of_ble_eq_true rfl) rfl body
theorem en_M_likeliest {lev : Nat} {h : xq_H} {Q : Option xq_V → xq_H → Prop} {o : Nat} {a0 : Int} {a1 : Int} (hlev : 1 ≤ lev) (body : ∀ K : xq_KT, xq_sound (xq_C lev) rw_M_likeliest 81 Q K → K 0 [some (xR o), some (xI a0), some (xI a1), none, none, none, none] [] 81 h) : xq_met lev y_M_likeliest [xR o, xI a0, xI a1] 81 h Q := xq_enterM (L0 := [some (xR o), some (xI a0), some (xI a1), none, none, none, none]) rfl ok_M_likeliest rfl (by decide +kernel) rfl hlev (Nat.le_of_ble_eq_true rfl) rfl body
theorem en_M_who {lev : Nat} {h : xq_H} {Q : Option xq_V → xq_H → Prop} {o : Nat} {a0 : Int} {a1 : Int} (hlev : 1 ≤ lev) (body : ∀ K : xq_KT, xq_sound (xq_C lev) rw_M_who 81 Q K → K 0 [some (xR o), some (xI a0), some (xI a1), none, none] [] 81 h) : xq_met lev y_M_who [xR o, xI a0, xI a1] 81 h Q := xq_enterM (L0 := [some (xR o), some (xI a0), some (xI a1), none, none]) rfl ok_M_who rfl (by decide +kernel) rfl hlev (Nat.le_of_ble_eq_true rfl) rfl body
theorem en_M_twins {lev : Nat} {h : xq_H} {Q : Option xq_V → xq_H → Prop} {o : Nat} (hlev : 1 ≤ lev) (body : ∀ K : xq_KT, xq_sound (xq_C lev) rw_M_twins 81 Q K → K 0 [some (xR o), none, none, none, none, none] [] 81 h) : xq_met lev y_M_twins [xR o] 81 h Q := xq_enterM (L0 := [some (xR o), none, none, none, none, none]) rfl ok_M_twins rfl (by decide +kernel) rfl hlev (Nat.le_of_ble_eq_true rfl) rfl body
theorem en_M_room {lev : Nat} {h : xq_H} {Q : Option xq_V → xq_H → Prop} {o : Nat} {a0 : Int} (hlev : 1 ≤ lev) (body : ∀ K : xq_KT, xq_sound (xq_C lev) rw_M_room 81 Q K → K 0 [some (xR o), some (xI a0), none, none] [] 81 h) : xq_met lev y_M_room [xR o, xI a0] 81 h Q := xq_enterM (L0 := [some (xR o), some (xI a0), none, none]) rfl ok_M_room rfl (by decide +kernel) rfl hlev (Nat.le_of_ble_eq_true rfl) rfl body
theorem en_M_saved {lev : Nat} {h : xq_H} {Q : Option xq_V → xq_H → Prop} {o : Nat} {a0 : Int} (hlev : 1 ≤ lev) (body : ∀ K : xq_KT, xq_sound (xq_C lev) rw_M_saved 81 Q K → K 0 [some (xR o), some (xI a0), none, none, none] [] 81 h) : xq_met lev y_M_saved [xR o, xI a0] 81 h Q := xq_enterM (L0 := [some (xR o), some (xI a0), none, none, none]) rfl ok_M_saved rfl (by decide +kernel) rfl hlev (Nat.le_of_ble_eq_true rfl) rfl body
theorem en_M_book {lev : Nat} {h : xq_H} {Q : Option xq_V → xq_H → Prop} {o : Nat} {a0 : Int} {a1 : Int} {a2 : Int} (hlev : 1 ≤ lev) (body : ∀ K : xq_KT, xq_sound (xq_C lev) rw_M_book 81 Q K → K 0 [some (xR o), some (xI a0), some (xI a1), some (xI a2)] [] 81 h) : xq_met lev y_M_book [xR o, xI a0, xI a1, xI a2] 81 h Q := xq_enterM (L0 := [some (xR o), some (xI a0), some (xI a1), some (xI a2)]) rfl ok_M_book rfl (by decide +kernel) rfl hlev (Nat.le_of_ble_eq_true rfl) rfl body
theorem en_M_looked {lev : Nat} {h : xq_H} {Q : Option xq_V → xq_H → Prop} {o : Nat} (hlev : 1 ≤ lev) (body : ∀ K : xq_KT, xq_sound (xq_C lev) rw_M_looked 81 Q K → K 0 [some (xR o), none] [] 81 h) : xq_met lev y_M_looked [xR o] 81 h Q := xq_enterM (L0 := [some (xR o), none]) rfl ok_M_looked rfl (by decide +kernel) rfl hlev (Nat.le_of_ble_eq_true rfl) rfl body
theorem en_M_ranBody {lev : Nat} {h : xq_H} {Q : Option xq_V → xq_H → Prop} {o : Nat} {a0 : Int} (hlev : 1 ≤ lev) (body : ∀ K : xq_KT, xq_sound (xq_C lev) rw_M_ranBody 81 Q K → K 0 [some (xR o), some (xI a0)] [] 81 h) : xq_met lev y_M_ranBody [xR o, xI a0] 81 h Q := xq_enterM (L0 := [some (xR o), some (xI a0)]) rfl ok_M_ranBody rfl (by decide +kernel) rfl hlev (Nat.le_of_ble_eq_true rfl) rfl body
theorem en_M_isUnder {lev : Nat} {h : xq_H} {Q : Option xq_V → xq_H → Prop} {a0 : Int} {a1 : Int} (hlev : 1 ≤ lev) (body : ∀ K : xq_KT, xq_sound (xq_C lev) rw_M_isUnder 81 Q K → K 0 [some (xI a0), some (xI a1)] [] 81 h) : xq_met lev y_M_isUnder [xI a0, xI a1] 81 h Q := xq_enterM (L0 := [some (xI a0), some (xI a1)]) rfl ok_M_isUnder rfl (by decide +kernel) rfl hlev (Nat.le_of_ble_eq_true rfl) rfl body
theorem en_M_plainMends {lev : Nat} {h : xq_H} {Q : Option xq_V → xq_H → Prop} {o : Nat} {a0 : Int} (hlev : 1 ≤ lev) (body : ∀ K : xq_KT, xq_sound (xq_C lev) rw_M_plainMends 81 Q K → K 0 [some (xR o), some (xI a0)] [] 81 h) : xq_met lev y_M_plainMends [xR o, xI a0] 81 h Q := xq_enterM (L0 := [some (xR o), some (xI a0)]) rfl ok_M_plainMends rfl (by decide +kernel) rfl hlev (Nat.le_of_ble_eq_true rfl) rfl body
theorem en_M_mendsActs {lev : Nat} {h : xq_H} {Q : Option xq_V → xq_H → Prop} {o : Nat} {a0 : Int} (hlev : 1 ≤ lev) (body : ∀ K : xq_KT, xq_sound (xq_C lev) rw_M_mendsActs 81 Q K → K 0 [some (xR o), some (xI a0)] [] 81 h) : xq_met lev y_M_mendsActs [xR o, xI a0] 81 h Q := xq_enterM (L0 := [some (xR o), some (xI a0)]) rfl ok_M_mendsActs rfl (by decide +kernel) rfl hlev (Nat.le_of_ble_eq_true rfl) rfl body
theorem en_M_plainLeaves {lev : Nat} {h : xq_H} {Q : Option xq_V → xq_H → Prop} {o : Nat} {a0 : Int} (hlev : 1 ≤ lev) (body : ∀ K : xq_KT, xq_sound (xq_C lev) rw_M_plainLeaves 81 Q K → K 0 [some (xR o), some (xI a0)] [] 81 h) : xq_met lev y_M_plainLeaves [xR o, xI a0] 81 h Q := xq_enterM (L0 := [some (xR o), some (xI a0)]) rfl ok_M_plainLeaves rfl (by decide +kernel) rfl hlev (Nat.le_of_ble_eq_true rfl) rfl body
theorem en_M_leavesActs {lev : Nat} {h : xq_H} {Q : Option xq_V → xq_H → Prop} {o : Nat} {a0 : Int} (hlev : 1 ≤ lev) (body : ∀ K : xq_KT, xq_sound (xq_C lev) rw_M_leavesActs 81 Q K → K 0 [some (xR o), some (xI a0)] [] 81 h) : xq_met lev y_M_leavesActs [xR o, xI a0] 81 h Q := xq_enterM (L0 := [some (xR o), some (xI a0)]) rfl ok_M_leavesActs rfl (by decide +kernel) rfl hlev (Nat.le_of_ble_eq_true rfl) rfl body
theorem en_M_plainTells {lev : Nat} {h : xq_H} {Q : Option xq_V → xq_H → Prop} {o : Nat} {a0 : Int} (hlev : 1 ≤ lev) (body : ∀ K : xq_KT, xq_sound (xq_C lev) rw_M_plainTells 81 Q K → K 0 [some (xR o), some (xI a0)] [] 81 h) : xq_met lev y_M_plainTells [xR o, xI a0] 81 h Q := xq_enterM (L0 := [some (xR o), some (xI a0)]) rfl ok_M_plainTells rfl (by decide +kernel) rfl hlev (Nat.le_of_ble_eq_true rfl) rfl body
theorem en_M_tellsActs {lev : Nat} {h : xq_H} {Q : Option xq_V → xq_H → Prop} {o : Nat} {a0 : Int} (hlev : 1 ≤ lev) (body : ∀ K : xq_KT, xq_sound (xq_C lev) rw_M_tellsActs 81 Q K → K 0 [some (xR o), some (xI a0), none] [] 81 h) : xq_met lev y_M_tellsActs [xR o, xI a0] 81 h Q := xq_enterM (L0 := [some (xR o), some (xI a0), none]) rfl ok_M_tellsActs rfl (by decide +kernel) rfl hlev (Nat.le_of_ble_eq_true rfl) rfl body
theorem en_M_act {lev : Nat} {h : xq_H} {Q : Option xq_V → xq_H → Prop} {o : Nat} {a0 : Int} {a1 : Int} {a2 : Int} (hlev : 1 ≤ lev) (body : ∀ K : xq_KT, xq_sound (xq_C lev) rw_M_act 81 Q K → K 0 [some (xR o), some (xI a0), some (xI a1), some (xI a2)] [] 81 h) : xq_met lev y_M_act [xR o, xI a0, xI a1, xI a2] 81 h Q := xq_enterM (L0 := [some (xR o), some (xI a0), some (xI a1), some (xI a2)]) rfl ok_M_act rfl (by decide +kernel) rfl hlev (Nat.le_of_ble_eq_true rfl) rfl body
theorem en_M_trace {lev : Nat} {h : xq_H} {Q : Option xq_V → xq_H → Prop} {o : Nat} {a0 : Int} (hlev : 1 ≤ lev) (body : ∀ K : xq_KT, xq_sound (xq_C lev) rw_M_trace 81 Q K → K 0 [some (xR o), some (xI a0)] [] 81 h) : xq_met lev y_M_trace [xR o, xI a0] 81 h Q := xq_enterM (L0 := [some (xR o), some (xI a0)]) rfl ok_M_trace rfl (by decide +kernel) rfl hlev (Nat.le_of_ble_eq_true rfl) rfl body
theorem en_M_as {lev : Nat} {h : xq_H} {Q : Option xq_V → xq_H → Prop} {o : Nat} {a0 : Int} {a1 : Int} (hlev : 1 ≤ lev) (body : ∀ K : xq_KT, xq_sound (xq_C lev) rw_M_as 81 Q K → K 0 [some (xR o), some (xI a0), some (xI a1)] [] 81 h) : xq_met lev y_M_as [xR o, xI a0, xI a1] 81 h Q := xq_enterM (L0 := [some (xR o), some (xI a0), some (xI a1)]) rfl ok_M_as rfl (by decide +kernel) rfl hlev (Nat.le_of_ble_eq_true rfl) rfl body
theorem en_M_image {lev : Nat} {h : xq_H} {Q : Option xq_V → xq_H → Prop} {o : Nat} (hlev : 1 ≤ lev) (body : ∀ K : xq_KT, xq_sound (xq_C lev) rw_M_image 81 Q K → K 0 [some (xR o), none] [] 81 h) : xq_met lev y_M_image [xR o] 81 h Q := xq_enterM (L0 := [some (xR o), none]) rfl ok_M_image rfl (by decide +kernel) rfl hlev (Nat.le_of_ble_eq_true rfl) rfl body
theorem en_M_undo {lev : Nat} {h : xq_H} {Q : Option xq_V → xq_H → Prop} {o : Nat} (hlev : 1 ≤ lev) (body : ∀ K : xq_KT, xq_sound (xq_C lev) rw_M_undo 81 Q K → K 0 [some (xR o), none] [] 81 h) : xq_met lev y_M_undo [xR o] 81 h Q := xq_enterM (L0 := [some (xR o), none]) rfl ok_M_undo rfl (by decide +kernel) rfl hlev (Nat.le_of_ble_eq_true rfl) rfl body
theorem en_M_count {lev : Nat} {h : xq_H} {Q : Option xq_V → xq_H → Prop} {o : Nat} {a0 : Int} (hlev : 1 ≤ lev) (body : ∀ K : xq_KT, xq_sound (xq_C lev) rw_M_count 81 Q K → K 0 [some (xR o), some (xI a0)] [] 81 h) : xq_met lev y_M_count [xR o, xI a0] 81 h Q := xq_enterM (L0 := [some (xR o), some (xI a0)]) rfl ok_M_count rfl (by decide +kernel) rfl hlev (Nat.le_of_ble_eq_true rfl) rfl body
end
section
/-! WORDS AND LETTERS -/
def xf_ds : Nat → Int → Prop
  | 0, w => w = 0
  | n + 1, w => w = 0 ∨ (1 ≤ w % 10 ∧ w % 10 ≤ 8 ∧ xf_ds n (w / 10))
/-- a word: one to five letters -/
def xf_wd (w : Int) : Prop := 1 ≤ w ∧ w ≤ 88888 ∧ xf_ds 5 w
def xf_sz (w : Int) : Int := if w < 1 then 0 else if w < 10 then 1 else if w < 100 then 2 else if w < 1000 then 3 else if w < 10000 then 4 else 5
theorem xf_szc (w : Int) (h : w ≤ 99999) : (w < 1 ∧ xf_sz w = 0) ∨ (1 ≤ w ∧ w < 10 ∧ xf_sz w = 1) ∨ (10 ≤ w ∧ w < 100 ∧ xf_sz w = 2) ∨ (100 ≤ w ∧ w < 1000 ∧ xf_sz w = 3) ∨ (1000 ≤ w ∧ w < 10000 ∧ xf_sz w = 4) ∨ (10000 ≤ w ∧ w < 100000 ∧ xf_sz w = 5) := by
  unfold xf_sz
  repeat' split
  all_goals omega
def xf_ct : Nat → Int → Int
  | 0, _ => 0
  | n + 1, w => if w = 0 then 0 else 1 + xf_ct n (w / 10)
def xf_small : Nat → Int → Prop
  | 0, w => w = 0
  | n + 1, w => 0 ≤ w ∧ xf_small n (w / 10)
theorem xf_small5 {w : Int} (h : 0 ≤ w ∧ w ≤ 99999) : xf_small 5 w := by
  simp only [xf_small]
  omega
theorem xf_small0 : ∀ n, xf_small n 0
  | 0 => rfl
  | n + 1 => ⟨Int.le_refl _, xf_small0 n⟩
theorem xf_ct_sz {w : Int} (h : 0 ≤ w ∧ w ≤ 99999) : xf_ct 5 w = xf_sz w := by
  unfold xf_sz
  simp only [xf_ct]
  repeat' split
  all_goals omega
/-- a word without its last letters -/
def xf_cut (w : Int) : Nat → Int
  | 0 => w
  | n + 1 => xf_cut w n / 10
def xf_near (a b : Int) : Prop := b - a = 4 ∨ a - b = 4 ∨ ((b - a = 1 ∨ a - b = 1) ∧ ¬ a + b = 9)
theorem xf_xor_nn {a b : Int} (ha : 0 ≤ a ∧ a ≤ 2147483647) (hb : 0 ≤ b ∧ b ≤ 2147483647) : 0 ≤ xq_xor a b := by
  obtain ⟨n, rfl⟩ := Int.eq_ofNat_of_zero_le ha.1
  obtain ⟨m, rfl⟩ := Int.eq_ofNat_of_zero_le hb.1
  unfold xq_xor
  have e : (Int32.ofInt (n : Int) ^^^ Int32.ofInt (m : Int)) = Int32.ofInt ((n ^^^ m : Nat) : Int) := by
    apply Int32.toBitVec_inj.mp
    show BitVec.ofInt 32 n ^^^ BitVec.ofInt 32 m = BitVec.ofInt 32 ((n ^^^ m : Nat) : Int)
    rw [BitVec.ofInt_natCast, BitVec.ofInt_natCast, BitVec.ofInt_natCast, BitVec.ofNat_xor]
  rw [e, xi_of]
  · omega
  · have : n ^^^ m < 2 ^ 31 := Nat.xor_lt_two_pow (by omega) (by omega)
    omega
theorem c_JM_min {lev : Nat} {h : xq_H} {Q : Option xq_V → xq_H → Prop} {a b : Int} (hl : 1 ≤ lev) (hQ : Q (some (xI (min a b))) h) : xq_met lev y_JM_min [xI a, xI b] 81 h Q := by
  refine en_JM_min hl (fun K hK => ?_)
  refine xq_go hK [] 60 ?_
  refine And.intro (fun c => ?_) (fun c => ?_)
  · rw [show min a b = b by omega] at hQ
    exact hQ
  · rw [show min a b = a by omega] at hQ
    exact hQ
theorem c_JM_max {lev : Nat} {h : xq_H} {Q : Option xq_V → xq_H → Prop} {a b : Int} (hl : 1 ≤ lev) (hQ : Q (some (xI (max a b))) h) : xq_met lev y_JM_max [xI a, xI b] 81 h Q := by
  refine en_JM_max hl (fun K hK => ?_)
  refine xq_go hK [] 60 ?_
  refine And.intro (fun c => ?_) (fun c => ?_)
  · rw [show max a b = b by omega] at hQ
    exact hQ
  · rw [show max a b = a by omega] at hQ
    exact hQ
theorem c_JM_floorMod {lev : Nat} {h : xq_H} {Q : Option xq_V → xq_H → Prop} {a b : Int} (hl : 1 ≤ lev) (ha : 0 ≤ a ∧ a ≤ 2147483647) (hb : 0 < b ∧ b ≤ 2147483647) (hQ : Q (some (xI (a % b))) h) : xq_met lev y_JM_floorMod [xI a, xI b] 81 h Q := by
  refine en_JM_floorMod hl (fun K hK => ?_)
  refine xq_go hK [] 60 ?_
  have hx := xf_xor_nn ha (show 0 ≤ b ∧ b ≤ 2147483647 by omega)
  refine And.intro ⟨ha.1, hb.1⟩ ?_
  refine And.intro (fun c => ?_) (fun c => ?_)
  · exact hQ
  · exact absurd hx (by omega)
theorem c_M_in {lev : Nat} {h : xq_H} {Q : Option xq_V → xq_H → Prop} {v lo hi : Int} (hl : 1 ≤ lev) (h1 : lo ≤ v ∧ v ≤ hi → Q (some (xI 1)) h) (h0 : ¬ (lo ≤ v ∧ v ≤ hi) → Q (some (xI 0)) h) : xq_met lev y_M_in [xI v, xI lo, xI hi] 81 h Q := by
  refine en_M_in hl (fun K hK => ?_)
  refine xq_go hK [] 60 ?_
  repeat' (first | (refine And.intro ?_ ?_) | (intro _))
  all_goals first | omega | exact h1 (by omega) | exact h0 (by omega)
theorem c_M_lesser {lev : Nat} {h : xq_H} {Q : Option xq_V → xq_H → Prop} {a b : Int} (hl : 1 ≤ lev) (hQ : Q (some (xI (min a b))) h) : xq_met lev y_M_lesser [xI a, xI b] 81 h Q := by
  refine en_M_lesser hl (fun K hK => ?_)
  refine xq_go hK [] 60 ?_
  refine And.intro (fun c => ?_) (fun c => ?_)
  · rw [show min a b = b by omega] at hQ
    exact hQ
  · rw [show min a b = a by omega] at hQ
    exact hQ
theorem c_X_isNear {lev : Nat} {h : xq_H} {Q : Option xq_V → xq_H → Prop} {a b : Int} (hl : 1 ≤ lev) (ha : 1 ≤ a ∧ a ≤ 8) (hb : 1 ≤ b ∧ b ≤ 8) (h1 : xf_near a b → Q (some (xI 1)) h) (h0 : ¬ xf_near a b → Q (some (xI 0)) h) : xq_met lev y_X_isNear [xI a, xI b] 81 h Q := by
  refine en_X_isNear hl (fun K hK => ?_)
  unfold xf_near at h1 h0
  refine xq_go hK [] 60 ?_
  repeat' (first | (refine And.intro ?_ ?_) | (intro _))
  all_goals first | omega | exact h1 (by omega) | exact h0 (by omega)
theorem c_M_areNear {lev : Nat} {h : xq_H} {Q : Option xq_V → xq_H → Prop} {a b : Int} (hl : 1 ≤ lev) (ha : 1 ≤ a ∧ a ≤ 8) (hb : 1 ≤ b ∧ b ≤ 8) (h1 : xf_near a b → Q (some (xI 1)) h) (h0 : ¬ xf_near a b → Q (some (xI 0)) h) : xq_met lev y_M_areNear [xI a, xI b] 81 h Q := by
  refine en_M_areNear hl (fun K hK => ?_)
  unfold xf_near at h1 h0
  refine xq_go hK [] 60 ?_
  obtain ⟨ha1, ha2⟩ := ha
  obtain ⟨hb1, hb2⟩ := hb
  rcases (show a = 1 ∨ a = 2 ∨ a = 3 ∨ a = 4 ∨ a = 5 ∨ a = 6 ∨ a = 7 ∨ a = 8 by omega) with rfl | rfl | rfl | rfl | rfl | rfl | rfl | rfl <;>
  rcases (show b = 1 ∨ b = 2 ∨ b = 3 ∨ b = 4 ∨ b = 5 ∨ b = 6 ∨ b = 7 ∨ b = 8 by omega) with rfl | rfl | rfl | rfl | rfl | rfl | rfl | rfl <;>
  (repeat' (first | (refine And.intro ?_ ?_) | (intro _))) <;> first | omega | exact h1 (by omega) | exact h0 (by omega)
theorem c_X_isAt {lev : Nat} {h : xq_H} {Q : Option xq_V → xq_H → Prop} {a b : Int} (hl : 1 ≤ lev) (h1 : 0 ≤ a ∧ a < b → Q (some (xI 1)) h) (h0 : ¬ (0 ≤ a ∧ a < b) → Q (some (xI 0)) h) : xq_met lev y_X_isAt [xI a, xI b] 81 h Q := by
  refine en_X_isAt hl (fun K hK => ?_)
  refine xq_go hK [] 60 ?_
  repeat' (first | (refine And.intro ?_ ?_) | (intro _))
  all_goals first | omega | exact h1 (by omega) | exact h0 (by omega)
theorem c_X_lettersOf {lev : Nat} {h : xq_H} {Q : Option xq_V → xq_H → Prop} {w : Int} (hl : 1 ≤ lev) (h1 : xf_wd w → Q (some (xI (xf_sz w))) h) (h0 : ¬ xf_wd w → Q (some (xI 0)) h) : xq_met lev y_X_lettersOf [xI w] 81 h Q := by
  refine en_X_lettersOf hl (fun K hK => ?_)
  have loop : ∀ (n : Nat) (k r : Int) (j : Option xq_V), 0 ≤ k → k + n = 5 → 0 ≤ r → r ≤ 88888 → xf_small n r → (xf_ds n r → Q (some (xI (k + xf_ct n r))) h) → (¬ xf_ds n r → Q (some (xI 0)) h) → K 12 [some (xI w), some (xI k), some (xI r), j] [] 81 h := by
    intro n
    induction n with
    | zero =>
      intro k r j hk0 hk hr hr2 hs q1 q0
      refine xq_go hK [12] 60 ?_
      refine And.intro (fun c => ?_) (fun c => absurd c (by omega))
      have q2 := q1 hs
      simp only [xf_ct, Int.add_zero] at q2
      exact q2
    | succ n ih =>
      intro k r j hk0 hk hr hr2 hs q1 q0
      refine xq_go hK [12] 60 ?_
      refine And.intro (fun c => absurd c (by omega)) (fun _ => ?_)
      refine And.intro (fun c => ?_) (fun c => ?_)
      · have e : r = 0 := by omega
        subst e
        have q2 := q1 (Or.inl rfl)
        simp only [xf_ct, if_pos, Int.add_zero] at q2
        exact q2
      · refine And.intro (by omega) ?_
        refine And.intro (fun c2 => q0 (fun z => by rcases z with z | z <;> omega)) (fun c2 => ?_)
        refine And.intro (fun c3 => ?_) (fun c3 => q0 (fun z => by rcases z with z | z <;> omega))
        refine And.intro (by omega) ?_
        refine And.intro (by omega) ?_
        refine ih (k + 1) (r / 10) _ (by omega) (by omega) (by omega) (by omega) hs.2 (fun z => ?_) (fun z => q0 (fun y => ?_))
        · have q2 := q1 (Or.inr ⟨by omega, by omega, z⟩)
          rw [xf_ct, if_neg (by omega), ← Int.add_assoc] at q2
          exact q2
        · rcases y with y | y
          · omega
          · exact z y.2.2
  refine xq_go hK [12] 60 ?_
  refine And.intro (fun c => h0 (fun z => by have := z.1; omega)) (fun c => ?_)
  refine And.intro (fun c2 => ?_) (fun c2 => h0 (fun z => by have := z.2.1; omega))
  refine loop 5 0 w _ (by omega) (by omega) (by omega) (by omega) (xf_small5 (by omega)) (fun z => ?_) (fun z => h0 (fun y => z y.2.2))
  rw [xf_ct_sz (by omega), Int.zero_add]
  exact h1 ⟨by omega, by omega, z⟩
theorem c_X_isWord {lev : Nat} {h : xq_H} {Q : Option xq_V → xq_H → Prop} {w : Int} (hl : 2 ≤ lev) (h1 : xf_wd w → Q (some (xI 1)) h) (h0 : ¬ xf_wd w → Q (some (xI 0)) h) : xq_met lev y_X_isWord [xI w] 81 h Q := by
  refine en_X_isWord (by omega) (fun K hK => ?_)
  refine xq_go hK [] 60 ?_
  refine ⟨lev - 1, by omega, c_X_lettersOf (by omega) (fun hw => ?_) (fun hw => ?_)⟩
  · have h3 := xf_szc w (by have := hw.2.1; omega)
    have h4 := hw.1
    refine And.intro (fun c => absurd c (by omega)) (fun c => ?_)
    exact And.intro (Or.inr rfl) (h1 hw)
  · refine And.intro (fun c => ?_) (fun c => absurd c (by omega))
    exact And.intro (Or.inl rfl) (h0 hw)
theorem c_M_isWord {lev : Nat} {h : xq_H} {Q : Option xq_V → xq_H → Prop} {w : Int} (hl : 2 ≤ lev) (h1 : xf_wd w → Q (some (xI 1)) h) (h0 : ¬ xf_wd w → Q (some (xI 0)) h) : xq_met lev y_M_isWord [xI w] 81 h Q := by
  refine en_M_isWord (by omega) (fun K hK => ?_)
  have loop : ∀ (n : Nat) (r : Int), 0 ≤ r → r ≤ 88888 → xf_small n r → (xf_ds n r → Q (some (xI 1)) h) → (¬ xf_ds n r → Q (some (xI 0)) h) → K 7 [some (xI w), some (xI 1), some (xI r)] [] 81 h := by
    intro n
    induction n with
    | zero =>
      intro r hr hr2 hs q1 q0
      refine xq_go hK [7] 60 ?_
      refine And.intro (fun c => absurd c (by decide)) (fun _ => ?_)
      have e : r = 0 := hs
      refine And.intro (fun c => ?_) (fun c => absurd c (by omega))
      exact And.intro (Or.inr rfl) (q1 hs)
    | succ n ih =>
      intro r hr hr2 hs q1 q0
      refine xq_go hK [7] 60 ?_
      refine And.intro (fun c => absurd c (by decide)) (fun _ => ?_)
      refine And.intro (fun c => ?_) (fun c => ?_)
      · exact And.intro (Or.inr rfl) (q1 (Or.inl (by omega)))
      · refine And.intro (by omega) ?_
        refine ⟨lev - 1, by omega, c_M_in (by omega) (fun hi => ?_) (fun hi => ?_)⟩
        · refine And.intro (by omega) ?_
          refine ih (r / 10) (by omega) (by omega) hs.2 (fun z => q1 (Or.inr ⟨hi.1, hi.2, z⟩)) (fun z => q0 (fun y => ?_))
          rcases y with y | y
          · omega
          · exact z y.2.2
        · refine And.intro (by omega) ?_
          refine xq_go hK [] 60 ?_
          refine And.intro (fun _ => ?_) (fun c => absurd rfl c)
          refine And.intro (Or.inl rfl) (q0 (fun y => ?_))
          rcases y with y | y
          · omega
          · exact hi ⟨y.1, y.2.1⟩
  refine xq_go hK [7] 60 ?_
  refine ⟨lev - 1, by omega, c_M_in (by omega) (fun hi => ?_) (fun hi => ?_)⟩
  · exact loop 5 w (by omega) (by omega) (xf_small5 (by omega)) (fun z => h1 ⟨hi.1, hi.2, z⟩) (fun z => h0 (fun y => z y.2.2))
  · refine xq_go hK [] 60 ?_
    refine And.intro (fun _ => ?_) (fun c => absurd rfl c)
    exact And.intro (Or.inl rfl) (h0 (fun y => hi ⟨y.1, y.2.1⟩))
theorem c_M_size {lev : Nat} {h : xq_H} {Q : Option xq_V → xq_H → Prop} {w : Int} (hl : 1 ≤ lev) (hw : 0 ≤ w ∧ w ≤ 99999) (h1 : Q (some (xI (xf_sz w))) h) : xq_met lev y_M_size [xI w] 81 h Q := by
  refine en_M_size (by omega) (fun K hK => ?_)
  have loop : ∀ (n : Nat) (k r : Int), 0 ≤ k → k + n ≤ 5 → 0 ≤ r → r ≤ 99999 → xf_small n r → Q (some (xI (k + xf_ct n r))) h → K 4 [some (xI w), some (xI k), some (xI r)] [] 81 h := by
    intro n
    induction n with
    | zero =>
      intro k r hk hk2 hr hr2 hs q
      refine xq_go hK [4] 60 ?_
      have e : r = 0 := hs
      refine And.intro (fun c => ?_) (fun c => absurd c (by omega))
      simp only [xf_ct, Int.add_zero] at q
      exact q
    | succ n ih =>
      intro k r hk hk2 hr hr2 hs q
      refine xq_go hK [4] 60 ?_
      refine And.intro (fun c => ?_) (fun c => ?_)
      · rw [xf_ct, if_pos (by omega), Int.add_zero] at q
        exact q
      · refine And.intro (by omega) ?_
        refine And.intro (by omega) ?_
        rw [xf_ct, if_neg (by omega), ← Int.add_assoc] at q
        exact ih (k + 1) (r / 10) (by omega) (by omega) (by omega) (by omega) hs.2 q
  refine xq_go hK [4] 60 ?_
  refine loop 5 0 w (by omega) (by omega) (by omega) (by omega) (xf_small5 hw) ?_
  rw [xf_ct_sz hw, Int.zero_add]
  exact h1
end
section
/-! HEAPS THAT ARE THE SAME BUT FOR SOME OBJECTS -/
def xs_eq (X : List Nat) (h h' : xq_H) : Prop := ∀ o, o ∉ X → h' o = h o
theorem xs_rf {X : List Nat} {h : xq_H} : xs_eq X h h := fun _ _ => rfl
theorem xs_u {X : List Nat} {h h' : xq_H} (hs : xs_eq X h h') {o : Nat} (ho : o ∈ X) (k v : Int) : xs_eq X h (xq_u h' o k v) := fun o' ho' => by
  rw [xq_u_o (fun z => ho' (by rw [z]; exact ho))]
  exact hs o' ho'
theorem xs_tr {X Y Z : List Nat} {h h' h'' : xq_H} (h1 : xs_eq X h h') (h2 : xs_eq Y h' h'') (hX : ∀ o ∈ X, o ∈ Z) (hY : ∀ o ∈ Y, o ∈ Z) : xs_eq Z h h'' := fun o ho => (h2 o (fun z => ho (hY o z))).trans (h1 o (fun z => ho (hX o z)))
theorem xu_rd {h : xq_H} {o : Nat} {k v k' : Int} : xq_u h o k v o k' = if k' = k then v else h o k' := by
  simp [xq_u]
theorem xu_eq {h : xq_H} {o : Nat} {k v : Int} : xq_u h o k v o k = v := by
  simp [xq_u]
theorem xu_ne {h : xq_H} {o : Nat} {k v k' : Int} (hk : k' ≠ k) : xq_u h o k v o k' = h o k' := by
  simp [xq_u, hk]
/-! HOW FAR: one letter after another -/
noncomputable def xf_sw (nr st : Int) (x y : Int) : Int := if x = y then 0 else (@ite _ (xf_near x y) (Classical.propDecidable _) nr st)
def xf_row (st : Int) (sw : Int → Int → Int) (x : Int) (b : Int → Int) (prev : Nat → Int) (first : Int) : Nat → Int
  | 0 => first
  | j + 1 => min (prev j + sw x (b j)) (min (prev (j + 1)) (xf_row st sw x b prev first j) + st)
def xf_D (st : Int) (sw : Int → Int → Int) (a b : Int → Int) : Nat → Nat → Int
  | 0 => fun j => (j : Int) * st
  | i + 1 => xf_row st sw (a i) b (xf_D st sw a b i) (((i : Int) + 1) * st)
theorem xf_sw_bd {nr st x y : Int} (hn : 0 ≤ nr ∧ nr ≤ 99) (hs : 0 ≤ st ∧ st ≤ 99) : 0 ≤ xf_sw nr st x y ∧ xf_sw nr st x y ≤ 99 := by
  unfold xf_sw
  repeat' split
  all_goals omega
theorem xf_D_bd {st : Int} {sw : Int → Int → Int} {a b : Int → Int} (hs : 0 ≤ st ∧ st ≤ 99) (hw : ∀ x y, 0 ≤ sw x y ∧ sw x y ≤ 99) : ∀ (i j : Nat), 0 ≤ xf_D st sw a b i j ∧ xf_D st sw a b i j ≤ 99 * ((i : Int) + j)
  | 0, j => by
    show 0 ≤ (j : Int) * st ∧ (j : Int) * st ≤ _
    refine ⟨Int.mul_nonneg (by omega) hs.1, ?_⟩
    have := Int.mul_le_mul_of_nonneg_left hs.2 (show (0 : Int) ≤ (j : Int) by omega)
    omega
  | i + 1, 0 => by
    show 0 ≤ ((i : Int) + 1) * st ∧ ((i : Int) + 1) * st ≤ _
    refine ⟨Int.mul_nonneg (by omega) hs.1, ?_⟩
    have := Int.mul_le_mul_of_nonneg_left hs.2 (show (0 : Int) ≤ (i : Int) + 1 by omega)
    omega
  | i + 1, j + 1 => by
    have h1 := xf_D_bd hs hw (a := a) (b := b) i j
    have h2 := xf_D_bd hs hw (a := a) (b := b) i (j + 1)
    have h3 := xf_D_bd hs hw (a := a) (b := b) (i + 1) j
    have h4 := hw (a i) (b j)
    have e : xf_D st sw a b (i + 1) (j + 1) = min (xf_D st sw a b i j + sw (a i) (b j)) (min (xf_D st sw a b i (j + 1)) (xf_D st sw a b (i + 1) j) + st) := rfl
    rw [e]
    omega
set_option maxHeartbeats 1000000 in
theorem c_K_leastSum {lev : Nat} {h : xq_H} {Q : Option xq_V → xq_H → Prop} {nr i : Int} {n g : Nat} (hl : 2 ≤ lev) (hi : 0 ≤ i ∧ i < 8) (hst : 0 ≤ h 17 1 ∧ h 17 1 ≤ 99) (hnr : 0 ≤ nr ∧ nr ≤ 99) (hn : h 1 5 = n) (hn5 : n ≤ 5) (hg : h 7 i = g) (hg5 : g ≤ 5) (ha : ∀ k : Nat, k < n → 1 ≤ h 27 k ∧ h 27 k ≤ 8) (hb : ∀ j : Nat, j < g → 1 ≤ h 8 (i * 5 + j) ∧ h 8 (i * 5 + j) ≤ 8)
    (hQ : ∀ h', xs_eq [28] h h' → Q (some (xI (xf_D (h 17 1) (xf_sw nr (h 17 1)) (fun k => h 27 k) (fun j => h 8 (i * 5 + j)) n g))) h') : xq_met lev y_K_leastSum [xR 1, xI nr, xI i] 81 h Q := by
  refine en_K_leastSum (by omega) (fun K hK => ?_)
  generalize hstE : h 17 1 = st at hst hQ
  have hD := fun (k j : Nat) => xf_D_bd (a := fun k => h 27 k) (b := fun j => h 8 (i * 5 + j)) hst (fun x y => xf_sw_bd (x := x) (y := y) hnr hst) k j
  generalize hDe : xf_D st (xf_sw nr st) (fun k => h 27 k) (fun j => h 8 (i * 5 + j)) = D at hD hQ
  -- the row of one more letter
  have inner : ∀ (m : Nat) (k j : Nat) (kI jI cI : Int) (h' : xq_H) (x8 x9 x10 : Option xq_V), k < n → 1 ≤ j → j + m = g + 1 → kI = k → jI = j → cI = D k (j - 1) → xs_eq [28] h h' → (∀ j' : Nat, j' < j → h' 28 j' = D (k + 1) j') → (∀ j' : Nat, j ≤ j' → j' ≤ g → h' 28 j' = D k j') →
      (∀ (kJ : Int) (h' : xq_H) (x6 x7 x8 x9 x10 : Option xq_V), kJ = (k : Int) + 1 → xs_eq [28] h h' → (∀ j' : Nat, j' ≤ g → h' 28 j' = D (k + 1) j') → K 30 [some (xR 1), some (xI nr), some (xI i), some (xI st), some (xI g), some (xI kJ), x6, x7, x8, x9, x10] [] 81 h') →
      K 50 [some (xR 1), some (xI nr), some (xI i), some (xI st), some (xI g), some (xI kI), some (xI cI), some (xI jI), x8, x9, x10] [] 81 h' := by
    intro m
    induction m with
    | zero =>
      intro k j kI jI cI h' x8 x9 x10 hk hj hm ek ej ec hs h1 h2 next
      refine xq_go hK [50, 30] 60 ?_
      refine And.intro (fun c => ?_) (fun c => absurd c (by omega))
      refine And.intro (by omega) ?_
      exact next _ h' _ _ _ _ _ (by omega) hs (fun j' hj' => h1 j' (by omega))
    | succ m ih =>
      intro k j kI jI cI h' x8 x9 x10 hk hj hm ek ej ec hs h1 h2 next
      have e8 : h' 8 = h 8 := hs 8 (by decide)
      have e27 : h' 27 = h 27 := hs 27 (by decide)
      obtain ⟨j0, rfl⟩ : ∃ j0, j = j0 + 1 := ⟨j - 1, by omega⟩
      rw [show j0 + 1 - 1 = j0 by omega] at ec
      have hb1 := hb j0 (by omega)
      have ha1 := ha k hk
      have v1 : h' 8 (i * 5 + jI - 1) = h 8 (i * 5 + j0) := by rw [e8, show i * 5 + jI - 1 = i * 5 + (j0 : Int) by omega]
      have v2 : h' 27 kI = h 27 k := by rw [e27, ek]
      have v3 : h' 28 jI = D k (j0 + 1) := by rw [ej]; exact h2 (j0 + 1) (Nat.le_refl _) (by omega)
      have v5 : h' 28 (jI - 1) = D (k + 1) j0 := by rw [show jI - 1 = (j0 : Int) by omega]; exact h1 j0 (by omega)
      have b1 := hD k j0
      have b2 := hD k (j0 + 1)
      have b3 := hD (k + 1) j0
      have b4 := hD (k + 1) (j0 + 1)
      have eD : D (k + 1) (j0 + 1) = min (D k j0 + xf_sw nr st (h 27 k) (h 8 (i * 5 + j0))) (min (D k (j0 + 1)) (D (k + 1) j0) + st) := by rw [← hDe]; rfl
      generalize hsw : xf_sw nr st (h 27 k) (h 8 (i * 5 + j0)) = sw at eD
      have hswb : 0 ≤ sw ∧ sw ≤ 99 := by rw [← hsw]; exact xf_sw_bd hnr hst
      -- the swapped sum in place 10
      have done : ∀ (x8 x9 : Option xq_V) (s10 : Int), s10 = D k j0 + sw → K 89 [some (xR 1), some (xI nr), some (xI i), some (xI st), some (xI g), some (xI kI), some (xI cI), some (xI jI), x8, x9, some (xI s10)] [] 81 h' := by
        intro x8 x9 s10 hs10
        refine xq_go hK [50] 60 ?_
        refine And.intro (by omega) ?_
        refine And.intro (by omega) ?_
        refine And.intro (by omega) ?_
        refine And.intro (by omega) ?_
        refine ⟨lev - 1, by omega, c_JM_min (by omega) ?_⟩
        refine And.intro (by omega) ?_
        refine ⟨lev - 1, by omega, c_JM_min (by omega) ?_⟩
        refine And.intro (by omega) ?_
        refine And.intro (by omega) ?_
        refine ih k (j0 + 2) _ _ _ _ _ _ _ hk (by omega) (by omega) ek (by omega) ?_ (xs_u hs (by decide) _ _) (fun j' hj' => ?_) (fun j' hj' hj2 => ?_) next
        · rw [v3]; rfl
        · rw [xu_rd]
          by_cases hjj : j' = j0 + 1
          · rw [if_pos (by omega), v3, v5, hs10, hjj, eD]
          · rw [if_neg (by omega)]; exact h1 j' (by omega)
        · rw [xu_rd, if_neg (by omega)]; exact h2 j' (by omega) hj2
      have tail : ∀ (x8 : Int) (s9 : Int) (x10 : Option xq_V), x8 = h 8 (i * 5 + j0) → 0 ≤ s9 ∧ s9 ≤ 99 → (h 27 k ≠ x8 → s9 = sw) → K 77 [some (xR 1), some (xI nr), some (xI i), some (xI st), some (xI g), some (xI kI), some (xI cI), some (xI jI), some (xI x8), some (xI s9), x10] [] 81 h' := by
        intro x8 s9 x10 hx8 h9 hx
        refine xq_go hK [89] 60 ?_
        refine And.intro (by omega) ?_
        refine And.intro (fun c => ?_) (fun c => ?_)
        · refine And.intro (by omega) ?_
          refine done _ _ _ ?_
          rw [ec, hx (fun z => c (by rw [v2]; exact z))]
        · refine And.intro (by omega) ?_
          refine done _ _ _ ?_
          have : sw = 0 := by rw [← hsw, xf_sw, if_pos (by omega)]
          omega
      refine xq_go hK [77] 60 ?_
      refine And.intro (fun c => absurd c (by omega)) (fun _ => ?_)
      refine And.intro (by omega) ?_
      refine And.intro (by omega) ?_
      refine And.intro (by omega) ?_
      refine And.intro (by omega) ?_
      refine And.intro (by omega) ?_
      refine ⟨lev - 1, by omega, c_X_isNear (by omega) (by omega) (by omega) (fun hne => ?_) (fun hne => ?_)⟩
      · refine And.intro (fun c => absurd c (by decide)) (fun _ => ?_)
        refine tail _ _ _ v1 hnr (fun z => ?_)
        rw [v1] at z hne
        rw [v2] at hne
        rw [← hsw, xf_sw, if_neg z, if_pos hne]
      · refine And.intro (fun _ => ?_) (fun c => absurd rfl c)
        refine tail _ _ _ v1 hst (fun z => ?_)
        rw [v1] at z hne
        rw [v2] at hne
        rw [← hsw, xf_sw, if_neg z, if_neg hne]
  -- letter by letter
  have outer : ∀ (m : Nat) (k : Nat) (kI : Int) (h' : xq_H) (x6 x7 x8 x9 x10 : Option xq_V), k + m = n → kI = k → xs_eq [28] h h' → (∀ j' : Nat, j' ≤ g → h' 28 j' = D k j') → K 30 [some (xR 1), some (xI nr), some (xI i), some (xI st), some (xI g), some (xI kI), x6, x7, x8, x9, x10] [] 81 h' := by
    intro m
    induction m with
    | zero =>
      intro k kI h' x6 x7 x8 x9 x10 hm ek hs h1
      have e1 : h' 1 5 = n := by rw [hs 1 (by decide)]; exact hn
      have hkn : k = n := by omega
      refine xq_go hK [30, 50] 60 ?_
      refine And.intro (fun c => ?_) (fun c => absurd c (by omega))
      refine And.intro (fun c => ?_) (fun c => absurd c (by omega))
      refine And.intro (by omega) ?_
      have q := hQ h' hs
      rw [← hkn, ← h1 g (Nat.le_refl _)] at q
      exact q
    | succ m ih =>
      intro k kI h' x6 x7 x8 x9 x10 hm ek hs h1
      have e1 : h' 1 5 = n := by rw [hs 1 (by decide)]; exact hn
      have z1 := h1 0 (by omega)
      have b1 := hD k 0
      have b2 := hD (k + 1) 0
      have eD : D (k + 1) 0 = ((k : Int) + 1) * st := by rw [← hDe]; rfl
      refine xq_go hK [30, 50] 60 ?_
      refine And.intro (fun c => absurd c (by omega)) (fun _ => ?_)
      refine And.intro (by omega) ?_
      refine And.intro (by omega) ?_
      rw [ek]
      refine And.intro (by omega) ?_
      refine And.intro (by omega) ?_
      refine inner g k 1 _ _ _ _ _ _ _ (by omega) (by omega) (by omega) rfl rfl z1 (xs_u hs (by decide) _ _) (fun j' hj' => ?_) (fun j' hj' hj2 => ?_) (fun kJ h'' x6 x7 x8 x9 x10 e hs2 h2 => ih (k + 1) kJ h'' x6 x7 x8 x9 x10 (by omega) (by omega) hs2 h2)
      · rw [show j' = 0 by omega, xu_rd, if_pos (by omega), eD]
      · rw [xu_rd, if_neg (by omega)]; exact h1 j' hj2
  -- the first row
  have first : ∀ (m : Nat) (j : Nat) (jI : Int) (h' : xq_H), j + m = g + 1 → jI = j → xs_eq [28] h h' → (∀ j' : Nat, j' < j → h' 28 j' = D 0 j') → K 16 [some (xR 1), some (xI nr), some (xI i), some (xI st), some (xI g), some (xI jI), none, none, none, none, none] [] 81 h' := by
    intro m
    induction m with
    | zero =>
      intro j jI h' hm ej hs h1
      refine xq_go hK [16, 30] 60 ?_
      refine And.intro (fun c => ?_) (fun c => absurd c (by omega))
      exact outer n 0 _ h' _ _ _ _ _ (by omega) rfl hs (fun j' hj' => h1 j' (by omega))
    | succ m ih =>
      intro j jI h' hm ej hs h1
      have b1 := hD 0 j
      have eD : D 0 j = (j : Int) * st := by rw [← hDe]; rfl
      refine xq_go hK [16, 30] 60 ?_
      refine And.intro (fun c => absurd c (by omega)) (fun _ => ?_)
      rw [ej]
      refine And.intro (by omega) ?_
      refine And.intro (by omega) ?_
      refine And.intro (by omega) ?_
      refine ih (j + 1) _ _ (by omega) (by omega) (xs_u hs (by decide) _ _) (fun j' hj' => ?_)
      rw [xu_rd]
      by_cases hjj : j' = j
      · rw [if_pos (by omega), hjj, eD]
      · rw [if_neg (by omega)]; exact h1 j' (by omega)
  refine xq_go hK [16] 60 ?_
  refine And.intro (by omega) ?_
  refine ⟨lev - 1, by omega, c_JM_min (by omega) ?_⟩
  rw [hg, show min (g : Int) 5 = g by omega, show h 17 1 = st from hstE]
  exact first (g + 1) 0 0 h (by omega) rfl xs_rf (fun j' hj' => by omega)
end
section
/-! LETTERS OF A WORD -/
theorem xf_cut_s : ∀ (t : Nat) (w : Int), xf_cut w (t + 1) = xf_cut (w / 10) t
  | 0, _ => rfl
  | t + 1, w => by
    show xf_cut w (t + 1) / 10 = xf_cut (w / 10) t / 10
    rw [xf_cut_s t w]
theorem xf_cut_nn {w : Int} (hw : 0 ≤ w) : ∀ t, 0 ≤ xf_cut w t ∧ xf_cut w t ≤ w
  | 0 => ⟨hw, Int.le_refl _⟩
  | t + 1 => by
    have := xf_cut_nn hw t
    show 0 ≤ xf_cut w t / 10 ∧ xf_cut w t / 10 ≤ w
    omega
theorem xf_ct_nn : ∀ (n : Nat) (w : Int), 0 ≤ xf_ct n w ∧ xf_ct n w ≤ n
  | 0, _ => ⟨Int.le_refl _, Int.le_refl _⟩
  | n + 1, w => by
    have := xf_ct_nn n (w / 10)
    rw [xf_ct]
    split <;> omega
theorem xf_dig : ∀ (n : Nat) (w : Int) (t : Nat), xf_ds n w → (t : Int) < xf_ct n w → 1 ≤ xf_cut w t % 10 ∧ xf_cut w t % 10 ≤ 8
  | 0, w, t, _, h => by simp only [xf_ct] at h; omega
  | n + 1, w, t, hd, h => by
    rw [xf_ct] at h
    split at h
    · omega
    · rename_i h0
      rcases hd with hd | ⟨h1, h2, h3⟩
      · exact absurd hd h0
      · cases t with
        | zero => exact ⟨h1, h2⟩
        | succ t =>
          rw [xf_cut_s]
          exact xf_dig n (w / 10) t h3 (by omega)
/-- the k-th letter from the left of a word of n letters -/
def xf_lt (w : Int) (n k : Nat) : Int := xf_cut w (n - 1 - k) % 10
theorem xf_szb {w : Int} (h : xf_wd w) : 1 ≤ xf_sz w ∧ xf_sz w ≤ 5 := by
  have h1 := h.1
  have h2 := h.2.1
  have := xf_szc w (by omega)
  omega
theorem xf_lt_bd {w : Int} (h : xf_wd w) {n : Nat} (hn : xf_sz w = n) {k : Nat} (hk : k < n) : 1 ≤ xf_lt w n k ∧ xf_lt w n k ≤ 8 := by
  have e := xf_ct_sz (w := w) (by have := h.1; have := h.2.1; omega)
  exact xf_dig 5 w (n - 1 - k) h.2.2 (by omega)
set_option maxHeartbeats 1000000 in
theorem c_K_spread {lev : Nat} {h : xq_H} {Q : Option xq_V → xq_H → Prop} {w : Int} (hl : 2 ≤ lev) (hw : xf_wd w) {n : Nat} (hn : xf_sz w = n) (hQ : ∀ h', xs_eq [1, 27] h h' → (∀ k, k ≠ 5 → h' 1 k = h 1 k) → h' 1 5 = n → (∀ k : Nat, k < n → h' 27 k = xf_lt w n k) → Q none h') : xq_met lev y_K_spread [xR 1, xI w] 81 h Q := by
  refine en_K_spread (by omega) (fun K hK => ?_)
  have hb := xf_szb hw
  have hw1 := hw.1
  have hw2 := hw.2.1
  have loop : ∀ (m : Nat) (kI r : Int) (h' : xq_H), m ≤ n → kI = (m : Int) - 1 → r = xf_cut w (n - m) → xs_eq [1, 27] h h' → (∀ k, k ≠ 5 → h' 1 k = h 1 k) → h' 1 5 = n → (∀ k : Nat, m ≤ k → k < n → h' 27 k = xf_lt w n k) → K 11 [some (xR 1), some (xI w), some (xI r), some (xI kI)] [] 81 h' := by
    intro m
    induction m with
    | zero =>
      intro kI r h' hm ek er hs h1 h5 h2
      refine xq_go hK [11] 60 ?_
      refine And.intro (fun c => ?_) (fun c => absurd c (by omega))
      exact hQ h' hs h1 h5 (fun k hk => h2 k (Nat.zero_le _) hk)
    | succ m ih =>
      intro kI r h' hm ek er hs h1 h5 h2
      have hr := xf_cut_nn (show 0 ≤ w by omega) (n - (m + 1))
      refine xq_go hK [11] 60 ?_
      refine And.intro (fun c => absurd c (by omega)) (fun _ => ?_)
      refine And.intro (fun c => absurd c (by omega)) (fun _ => ?_)
      refine And.intro (by omega) ?_
      refine And.intro (by omega) ?_
      refine And.intro (by omega) ?_
      refine And.intro (by omega) ?_
      refine ih _ _ _ (by omega) (by omega) ?_ (xs_u hs (by decide) _ _) (fun k hk => ?_) ?_ (fun k hk hk2 => ?_)
      · rw [er, show n - m = n - (m + 1) + 1 by omega]; rfl
      · rw [xq_u_o (by decide)]; exact h1 k hk
      · rw [xq_u_o (by decide)]; exact h5
      · rw [xu_rd]
        by_cases hkm : k = m
        · rw [if_pos (by omega), er, xf_lt, show n - 1 - k = n - (m + 1) by omega]
        · rw [if_neg (by omega)]; exact h2 k (by omega) hk2
  refine xq_go hK [11] 60 ?_
  refine ⟨lev - 1, by omega, c_X_lettersOf (by omega) (fun _ => ?_) (fun z => absurd hw z)⟩
  have e5 : xq_u h 1 5 (xf_sz w) 1 5 = n := by rw [xu_eq]; exact hn
  refine And.intro (by omega) ?_
  refine loop n _ _ _ (Nat.le_refl _) (by omega) (by rw [Nat.sub_self]; rfl) (xs_u xs_rf (by decide) _ _) (fun k hk => xu_ne hk) e5 (fun k hk hk2 => by omega)
theorem c_M_first {lev : Nat} {h : xq_H} {Q : Option xq_V → xq_H → Prop} {w a : Int} (hl : 2 ≤ lev) (hw : 1 ≤ w ∧ w ≤ 99999) {n m : Nat} (hn : xf_sz w = n) (hm : a = m) (h1 : Q (some (xI (xf_cut w (n - m)))) h) : xq_met lev y_M_first [xI w, xI a] 81 h Q := by
  refine en_M_first (by omega) (fun K hK => ?_)
  have hb := xf_szc w hw.2
  have loop : ∀ (d : Nat) (t : Nat) (r kI : Int), t + d = n - m → r = xf_cut w t → kI = (n : Int) - t → K 5 [some (xI w), some (xI a), some (xI r), some (xI kI)] [] 81 h := by
    intro d
    induction d with
    | zero =>
      intro t r kI ht er ek
      refine xq_go hK [5] 60 ?_
      refine And.intro (fun c => ?_) (fun c => absurd c (by omega))
      rw [← ht, Nat.add_zero, ← er] at h1
      exact h1
    | succ d ih =>
      intro t r kI ht er ek
      have hr := xf_cut_nn (show 0 ≤ w by omega) t
      refine xq_go hK [5] 60 ?_
      refine And.intro (fun c => absurd c (by omega)) (fun _ => ?_)
      refine And.intro (by omega) ?_
      refine And.intro (by omega) ?_
      exact ih (t + 1) _ _ (by omega) (by rw [er]; rfl) (by omega)
  refine xq_go hK [5] 60 ?_
  refine ⟨lev - 1, by omega, c_M_size (by omega) (by omega) ?_⟩
  exact loop (n - m) 0 _ _ (by omega) rfl (by omega)
theorem c_X_withoutLast {lev : Nat} {h : xq_H} {Q : Option xq_V → xq_H → Prop} {w a : Int} (hl : 1 ≤ lev) (hw : 0 ≤ w ∧ w ≤ 99999) {m : Nat} (hm : a = m) (hm5 : m ≤ 5) (h1 : Q (some (xI (xf_cut w m))) h) : xq_met lev y_X_withoutLast [xI w, xI a] 81 h Q := by
  refine en_X_withoutLast (by omega) (fun K hK => ?_)
  have loop : ∀ (d : Nat) (t : Nat) (r kI : Int), t + d = m → r = xf_cut w t → kI = t → K 4 [some (xI w), some (xI a), some (xI r), some (xI kI)] [] 81 h := by
    intro d
    induction d with
    | zero =>
      intro t r kI ht er ek
      refine xq_go hK [4] 60 ?_
      refine And.intro (fun c => ?_) (fun c => absurd c (by omega))
      rw [← ht, Nat.add_zero, ← er] at h1
      exact h1
    | succ d ih =>
      intro t r kI ht er ek
      have hr := xf_cut_nn (show 0 ≤ w by omega) t
      refine xq_go hK [4] 60 ?_
      refine And.intro (fun c => absurd c (by omega)) (fun _ => ?_)
      refine And.intro (fun c => absurd c (by omega)) (fun _ => ?_)
      refine And.intro (by omega) ?_
      refine And.intro (by omega) ?_
      exact ih (t + 1) _ _ (by omega) (by rw [er]; rfl) (by omega)
  refine xq_go hK [4] 60 ?_
  exact loop m 0 _ _ (by omega) rfl rfl
set_option maxHeartbeats 1000000 in
theorem c_M_spellsInto {lev : Nat} {h : xq_H} {Q : Option xq_V → xq_H → Prop} {w : Int} {o : Nat} (ho : o = 70 ∨ o = 71) (hl : 2 ≤ lev) (hw : 1 ≤ w ∧ w ≤ 99999) {n : Nat} (hn : xf_sz w = n) (hQ : ∀ h', xs_eq [o] h h' → (∀ k : Nat, k < n → h' o ((k : Int) + 1) = xf_lt w n k) → Q none h') : xq_met lev y_M_spellsInto [xI w, xR o] 81 h Q := by
  refine en_M_spellsInto (by omega) (fun K hK => ?_)
  have hb := xf_szc w hw.2
  have loop : ∀ (m : Nat) (nI kI r : Int) (h' : xq_H), m ≤ n → kI = (m : Int) → r = xf_cut w (n - m) → xs_eq [o] h h' → (∀ k : Nat, m ≤ k → k < n → h' o ((k : Int) + 1) = xf_lt w n k) → K 7 [some (xI w), some (xR o), some (xI nI), some (xI r), some (xI kI)] [] 81 h' := by
    intro m
    induction m with
    | zero =>
      intro nI kI r h' hm ek er hs h2
      refine xq_go hK [7] 60 ?_
      refine And.intro (fun c => ?_) (fun c => absurd c (by omega))
      exact hQ h' hs (fun k hk => h2 k (Nat.zero_le _) hk)
    | succ m ih =>
      intro nI kI r h' hm ek er hs h2
      have hr := xf_cut_nn (show 0 ≤ w by omega) (n - (m + 1))
      have key : K 15 [some (xI w), some (xR o), some (xI nI), some (xI r), some (xI kI)] [] 81 (xq_u h' o kI (r % 10)) := by
        refine xq_go hK [7] 60 ?_
        refine And.intro (by omega) ?_
        refine And.intro (by omega) ?_
        refine ih _ _ _ _ (by omega) (by omega) ?_ (xs_u hs List.mem_cons_self _ _) (fun k hk hk2 => ?_)
        · rw [er, show n - m = n - (m + 1) + 1 by omega]; rfl
        · rw [xu_rd]
          by_cases hkm : k = m
          · rw [if_pos (by omega), er, xf_lt, show n - 1 - k = n - (m + 1) by omega]
          · rw [if_neg (by omega)]; exact h2 k (by omega) hk2
      rcases ho with rfl | rfl
      · refine xq_go hK [7, 15] 60 ?_
        refine And.intro (fun c => absurd c (by omega)) (fun _ => ?_)
        refine And.intro (by omega) ?_
        refine And.intro (by omega) ?_
        exact key
      · refine xq_go hK [7, 15] 60 ?_
        refine And.intro (fun c => absurd c (by omega)) (fun _ => ?_)
        refine And.intro (by omega) ?_
        refine And.intro (by omega) ?_
        exact key
  refine xq_go hK [7] 60 ?_
  refine ⟨lev - 1, by omega, c_M_size (by omega) (by omega) ?_⟩
  refine loop n _ _ _ _ (Nat.le_refl _) (by omega) (by rw [Nat.sub_self]; rfl) xs_rf (fun k hk hk2 => by omega)
theorem c_M_tellsOf {lev : Nat} {h : xq_H} {Q : Option xq_V → xq_H → Prop} {wh none0 : Int} (hl : 1 ≤ lev) (hw : 0 ≤ wh ∧ wh ≤ 900) (hh : -1 ≤ h 65 17 ∧ h 65 17 ≤ 4) (h1 : h 65 17 = -1 → Q (some (xI none0)) h) (h2 : 0 ≤ h 65 17 → Q (some (xI (h 65 (wh + h 65 17)))) h) : xq_met lev y_M_tellsOf [xR 64, xI wh, xI none0] 81 h Q := by
  refine en_M_tellsOf (by omega) (fun K hK => ?_)
  refine xq_go hK [] 60 ?_
  refine And.intro (by omega) ?_
  refine And.intro (fun c => ?_) (fun c => h1 c)
  refine And.intro (by omega) ?_
  refine And.intro (by omega) ?_
  refine And.intro (by omega) ?_
  exact h2 (by omega)
end
section
/-! THE REFERENCE'S CHANGES -/
theorem xf_row_congr {st : Int} {sw : Int → Int → Int} {x x' : Int} {b b' : Int → Int} {p p' : Nat → Int} {f : Int} (hx : x = x') : ∀ (g : Nat), (∀ j : Nat, j < g → b j = b' j) → (∀ j : Nat, j ≤ g → p j = p' j) → xf_row st sw x b p f g = xf_row st sw x' b' p' f g
  | 0, _, _ => rfl
  | g + 1, hb, hp => by
    rw [xf_row, xf_row, xf_row_congr hx g (fun j hj => hb j (by omega)) (fun j hj => hp j (by omega)), hp g (by omega), hp (g + 1) (Nat.le_refl _), hb g (by omega), hx]
theorem xf_D_congr {st : Int} {sw : Int → Int → Int} {a a' b b' : Int → Int} : ∀ (n g : Nat), (∀ k : Nat, k < n → a k = a' k) → (∀ j : Nat, j < g → b j = b' j) → xf_D st sw a b n g = xf_D st sw a' b' n g
  | 0, _, _, _ => rfl
  | n + 1, g, ha, hb => xf_row_congr (ha n (by omega)) g hb (fun j hj => xf_D_congr n j (fun k hk => ha k (by omega)) (fun i hi => hb i (by omega)))
noncomputable def xf_far (st nr typed other : Int) : Int := xf_D st (xf_sw nr st) (fun k => xf_lt typed (xf_sz typed).toNat k.toNat) (fun k => xf_lt other (xf_sz other).toNat k.toNat) (xf_sz typed).toNat (xf_sz other).toNat
/-- STEP of the newest telephone -/
def xf_stp (m : Int → Int) : Int := if m 17 = -1 then 10 else m (239 + m 17)
set_option maxHeartbeats 2000000 in
theorem c_M_changes {lev : Nat} {h : xq_H} {Q : Option xq_V → xq_H → Prop} {typed other near : Int} (hl : 3 ≤ lev) (ht : xf_wd typed) (ho : xf_wd other) (hnear : near = 0 ∨ near = 1) (hh : -1 ≤ h 65 17 ∧ h 65 17 ≤ 4) (hst : 0 ≤ xf_stp (h 65) ∧ xf_stp (h 65) ≤ 99)
    (hQ : ∀ h', xs_eq [70, 71, 72, 73] h h' → Q (some (xI (xf_far (xf_stp (h 65)) (if near = 1 then min 4 (xf_stp (h 65)) else xf_stp (h 65)) typed other))) h') : xq_met lev y_M_changes [xR 64, xI typed, xI other, xI near] 81 h Q := by
  refine en_M_changes (by omega) (fun K hK => ?_)
  obtain ⟨n, hn⟩ : ∃ n : Nat, xf_sz typed = n := ⟨(xf_sz typed).toNat, by have := xf_szb ht; omega⟩
  obtain ⟨g, hg⟩ : ∃ n : Nat, xf_sz other = n := ⟨(xf_sz other).toNat, by have := xf_szb ho; omega⟩
  have bt := xf_szb ht
  have bo := xf_szb ho
  have ht1 := ht.1
  have ht2 := ht.2.1
  have ho1 := ho.1
  have ho2 := ho.2.1
  generalize hstE : xf_stp (h 65) = st at hst hQ
  generalize hnrE : (if near = 1 then min 4 st else st) = nr at hQ
  have hnr : 0 ≤ nr ∧ nr ≤ 99 := by rw [← hnrE]; split <;> omega
  have hD := fun (k j : Nat) => xf_D_bd (a := fun k => xf_lt typed (xf_sz typed).toNat k.toNat) (b := fun k => xf_lt other (xf_sz other).toNat k.toNat) hst (fun x y => xf_sw_bd (x := x) (y := y) hnr hst) k j
  unfold xf_far at hQ
  generalize hDe : xf_D st (xf_sw nr st) (fun k => xf_lt typed (xf_sz typed).toNat k.toNat) (fun k => xf_lt other (xf_sz other).toNat k.toNat) = D at hD hQ
  have hn2 : (xf_sz typed).toNat = n := by omega
  have hg2 : (xf_sz other).toNat = g := by omega
  rw [hn2, hg2] at hQ hDe
  -- what is held beside the two rows
  let P : xq_H → Prop := fun h' => xs_eq [70, 71, 72, 73] h h' ∧ (∀ k : Nat, k < n → h' 70 ((k : Int) + 1) = xf_lt typed n k) ∧ (∀ k : Nat, k < g → h' 71 ((k : Int) + 1) = xf_lt other g k)
  have P2 : ∀ h' k v, P h' → P (xq_u h' 72 k v) := fun h' k v hp => ⟨xs_u hp.1 (by decide) _ _, fun k hk => by rw [xq_u_o (by decide)]; exact hp.2.1 k hk, fun k hk => by rw [xq_u_o (by decide)]; exact hp.2.2 k hk⟩
  have P3 : ∀ h' k v, P h' → P (xq_u h' 73 k v) := fun h' k v hp => ⟨xs_u hp.1 (by decide) _ _, fun k hk => by rw [xq_u_o (by decide)]; exact hp.2.1 k hk, fun k hk => by rw [xq_u_o (by decide)]; exact hp.2.2 k hk⟩
  -- the row is copied
  have copy : ∀ (m : Nat) (i j : Nat) (iI jI : Int) (h' : xq_H) (x9 : Option xq_V), i < n → j + m = g + 1 → iI = (i : Int) + 1 → jI = j → P h' → (∀ j' : Nat, j' ≤ g → h' 73 j' = D (i + 1) j') → (∀ j' : Nat, j' < j → h' 72 j' = D (i + 1) j') →
      (∀ (iJ : Int) (h' : xq_H) (x8 x9 : Option xq_V), iJ = (i : Int) + 2 → P h' → (∀ j' : Nat, j' ≤ g → h' 72 j' = D (i + 1) j') → K 35 [some (xR 64), some (xI typed), some (xI other), some (xI near), some (xI st), some (xI n), some (xI g), some (xI iJ), x8, x9] [] 81 h') →
      K 109 [some (xR 64), some (xI typed), some (xI other), some (xI near), some (xI st), some (xI n), some (xI g), some (xI iI), some (xI jI), x9] [] 81 h' := by
    intro m
    induction m with
    | zero =>
      intro i j iI jI h' x9 hi hm ei ej hp h3 h2 next
      refine xq_go hK [109, 35] 60 ?_
      refine And.intro (fun c => ?_) (fun c => absurd c (by omega))
      refine And.intro (by omega) ?_
      exact next _ h' _ _ (by omega) hp (fun j' hj' => h2 j' (by omega))
    | succ m ih =>
      intro i j iI jI h' x9 hi hm ei ej hp h3 h2 next
      refine xq_go hK [109, 35] 60 ?_
      refine And.intro (fun c => absurd c (by omega)) (fun _ => ?_)
      refine And.intro (by omega) ?_
      refine And.intro (by omega) ?_
      refine And.intro (by omega) ?_
      refine ih i (j + 1) _ _ _ _ hi (by omega) ei (by omega) (P2 _ _ _ hp) (fun j' hj' => ?_) (fun j' hj' => ?_) next
      · rw [xq_u_o (by decide)]; exact h3 j' hj'
      · rw [xu_rd]
        by_cases hjj : j' = j
        · rw [if_pos (by omega), ej, hjj]; exact h3 j (by omega)
        · rw [if_neg (by omega)]; exact h2 j' (by omega)
  -- the row of one more letter
  have inner : ∀ (m : Nat) (i j : Nat) (iI jI : Int) (h' : xq_H) (x9 : Option xq_V), i < n → 1 ≤ j → j + m = g + 1 → iI = (i : Int) + 1 → jI = j → P h' → (∀ j' : Nat, j' ≤ g → h' 72 j' = D i j') → (∀ j' : Nat, j' < j → h' 73 j' = D (i + 1) j') →
      (∀ (iJ : Int) (h' : xq_H) (x8 x9 : Option xq_V), iJ = (i : Int) + 2 → P h' → (∀ j' : Nat, j' ≤ g → h' 72 j' = D (i + 1) j') → K 35 [some (xR 64), some (xI typed), some (xI other), some (xI near), some (xI st), some (xI n), some (xI g), some (xI iJ), x8, x9] [] 81 h') →
      K 47 [some (xR 64), some (xI typed), some (xI other), some (xI near), some (xI st), some (xI n), some (xI g), some (xI iI), some (xI jI), x9] [] 81 h' := by
    intro m
    induction m with
    | zero =>
      intro i j iI jI h' x9 hi hj hm ei ej hp h2 h3 next
      refine xq_go hK [47, 109, 35] 60 ?_
      refine And.intro (fun c => ?_) (fun c => absurd c (by omega))
      exact copy (g + 1) i 0 _ _ h' _ hi (by omega) ei rfl hp (fun j' hj' => h3 j' (by omega)) (fun j' hj' => by omega) next
    | succ m ih =>
      intro i j iI jI h' x9 hi hj hm ei ej hp h2 h3 next
      obtain ⟨j0, rfl⟩ : ∃ j0, j = j0 + 1 := ⟨j - 1, by omega⟩
      have v1 : h' 70 iI = xf_lt typed n i := by rw [ei]; exact hp.2.1 i hi
      have v2 : h' 71 jI = xf_lt other g j0 := by rw [show jI = (j0 : Int) + 1 by omega]; exact hp.2.2 j0 (by omega)
      have ba := xf_lt_bd ht hn hi
      have bb := xf_lt_bd ho hg (show j0 < g by omega)
      have v3 : h' 72 jI = D i (j0 + 1) := by rw [ej]; exact h2 (j0 + 1) (by omega)
      have v4 : h' 72 (jI - 1) = D i j0 := by rw [show jI - 1 = (j0 : Int) by omega]; exact h2 j0 (by omega)
      have v5 : h' 73 (jI - 1) = D (i + 1) j0 := by rw [show jI - 1 = (j0 : Int) by omega]; exact h3 j0 (by omega)
      have b1 := hD i j0
      have b2 := hD i (j0 + 1)
      have b3 := hD (i + 1) j0
      have b4 := hD (i + 1) (j0 + 1)
      have eD : D (i + 1) (j0 + 1) = min (D i j0 + xf_sw nr st (xf_lt typed n i) (xf_lt other g j0)) (min (D i (j0 + 1)) (D (i + 1) j0) + st) := by rw [← hDe]; rfl
      generalize hsw : xf_sw nr st (xf_lt typed n i) (xf_lt other g j0) = sw at eD
      have hswb : 0 ≤ sw ∧ sw ≤ 99 := by rw [← hsw]; exact xf_sw_bd hnr hst
      have tail : ∀ (s9 : Int) (x9 : Option xq_V), s9 = sw → K 78 [some (xR 64), some (xI typed), some (xI other), some (xI near), some (xI st), some (xI n), some (xI g), some (xI iI), some (xI jI), x9] [xI s9] 81 h' := by
        intro s9 x9 h9
        refine xq_go hK [47] 60 ?_
        refine And.intro (by omega) ?_
        refine And.intro (by omega) ?_
        refine And.intro (by omega) ?_
        refine And.intro (by omega) ?_
        refine And.intro (by omega) ?_
        refine And.intro (by omega) ?_
        refine ⟨lev - 1, by omega, c_M_lesser (by omega) ?_⟩
        refine And.intro (by omega) ?_
        refine ⟨lev - 1, by omega, c_M_lesser (by omega) ?_⟩
        refine And.intro (by omega) ?_
        refine And.intro (by omega) ?_
        refine ih i (j0 + 2) _ _ _ _ hi (by omega) (by omega) ei (by omega) (P3 _ _ _ hp) (fun j' hj' => ?_) (fun j' hj' => ?_) next
        · rw [xq_u_o (by decide)]; exact h2 j' hj'
        · rw [xu_rd]
          by_cases hjj : j' = j0 + 1
          · rw [if_pos (by omega), v3, v4, v5, h9, hjj, eD]
          · rw [if_neg (by omega)]; exact h3 j' (by omega)
      refine xq_go hK [78] 60 ?_
      refine And.intro (fun c => absurd c (by omega)) (fun _ => ?_)
      refine And.intro (by omega) ?_
      refine And.intro (by omega) ?_
      refine And.intro (fun c => ?_) (fun c => ?_)
      · refine And.intro (fun c2 => ?_) (fun c2 => ?_)
        · -- not near
          refine tail _ _ ?_
          have hnr0 : nr = st := by
            rw [← hnrE]
            exact if_neg (by omega)
          rw [← hsw, xf_sw, if_neg (by rw [← v1, ← v2]; exact c), hnr0]
          split <;> rfl
        · refine And.intro (by omega) ?_
          refine And.intro (by omega) ?_
          refine ⟨lev - 1, by omega, c_M_areNear (by omega) (by omega) (by omega) (fun hne => ?_) (fun hne => ?_)⟩
          · refine And.intro (fun z => absurd z (by decide)) (fun _ => ?_)
            refine ⟨lev - 1, by omega, c_M_lesser (by omega) ?_⟩
            refine tail _ _ ?_
            rw [v1, v2] at hne c
            rw [← hsw, xf_sw, if_neg c, if_pos hne, ← hnrE, if_pos (by omega)]
          · refine And.intro (fun _ => ?_) (fun z => absurd rfl z)
            refine tail _ _ ?_
            rw [v1, v2] at hne c
            rw [← hsw, xf_sw, if_neg c, if_neg hne]
      · refine tail _ _ ?_
        rw [v1, v2] at c
        rw [← hsw, xf_sw, if_pos c]
  -- letter by letter
  have outer : ∀ (m : Nat) (i : Nat) (iI : Int) (h' : xq_H) (x8 x9 : Option xq_V), i + m = n → iI = (i : Int) + 1 → P h' → (∀ j' : Nat, j' ≤ g → h' 72 j' = D i j') → K 35 [some (xR 64), some (xI typed), some (xI other), some (xI near), some (xI st), some (xI n), some (xI g), some (xI iI), x8, x9] [] 81 h' := by
    intro m
    induction m with
    | zero =>
      intro i iI h' x8 x9 hm ei hp h2
      have hin : i = n := by omega
      refine xq_go hK [35] 60 ?_
      refine And.intro (fun c => ?_) (fun c => absurd c (by omega))
      refine And.intro (by omega) ?_
      have q := hQ h' hp.1
      rw [← hin, ← h2 g (Nat.le_refl _)] at q
      exact q
    | succ m ih =>
      intro i iI h' x8 x9 hm ei hp h2
      have b2 := hD (i + 1) 0
      have eD : D (i + 1) 0 = ((i : Int) + 1) * st := by rw [← hDe]; rfl
      refine xq_go hK [35, 47] 60 ?_
      refine And.intro (fun c => absurd c (by omega)) (fun _ => ?_)
      rw [ei]
      refine And.intro (by omega) ?_
      refine And.intro (by omega) ?_
      refine inner g i 1 _ _ _ _ (by omega) (by omega) (by omega) rfl rfl (P3 _ _ _ hp) (fun j' hj' => ?_) (fun j' hj' => ?_) (fun iJ h'' x8 x9 e hp2 h2 => ih (i + 1) iJ h'' x8 x9 (by omega) (by omega) hp2 h2)
      · rw [xq_u_o (by decide)]; exact h2 j' hj'
      · rw [show j' = 0 by omega, xu_rd, if_pos (by omega), eD]
  -- the first row
  have first : ∀ (m : Nat) (j : Nat) (jI : Int) (h' : xq_H), j + m = g + 1 → jI = j → P h' → (∀ j' : Nat, j' < j → h' 72 j' = D 0 j') → K 21 [some (xR 64), some (xI typed), some (xI other), some (xI near), some (xI st), some (xI n), some (xI g), some (xI jI), none, none] [] 81 h' := by
    intro m
    induction m with
    | zero =>
      intro j jI h' hm ej hp h1
      refine xq_go hK [21, 35] 60 ?_
      refine And.intro (fun c => ?_) (fun c => absurd c (by omega))
      exact outer n 0 _ h' _ _ (by omega) rfl hp (fun j' hj' => h1 j' (by omega))
    | succ m ih =>
      intro j jI h' hm ej hp h1
      have b1 := hD 0 j
      have eD : D 0 j = (j : Int) * st := by rw [← hDe]; rfl
      refine xq_go hK [21, 35] 60 ?_
      refine And.intro (fun c => absurd c (by omega)) (fun _ => ?_)
      rw [ej]
      refine And.intro (by omega) ?_
      refine And.intro (by omega) ?_
      refine And.intro (by omega) ?_
      refine ih (j + 1) _ _ (by omega) (by omega) (P2 _ _ _ hp) (fun j' hj' => ?_)
      rw [xu_rd]
      by_cases hjj : j' = j
      · rw [if_pos (by omega), hjj, eD]
      · rw [if_neg (by omega)]; exact h1 j' (by omega)
  have start : ∀ s0 : Int, s0 = st → K 4 [some (xR 64), some (xI typed), some (xI other), some (xI near), none, none, none, none, none, none] [xI s0] 81 h := by
    intro s0 e0
    rw [e0]
    refine xq_go hK [21] 60 ?_
    refine ⟨lev - 1, by omega, c_M_size (by omega) (by omega) ?_⟩
    refine ⟨lev - 1, by omega, c_M_size (by omega) (by omega) ?_⟩
    refine ⟨lev - 1, by omega, c_M_spellsInto (Or.inl rfl) (by omega) (by omega) hn (fun h1 s1 l1 => ?_)⟩
    refine ⟨lev - 1, by omega, c_M_spellsInto (Or.inr rfl) (by omega) (by omega) hg (fun h2 s2 l2 => ?_)⟩
    rw [hn, hg]
    exact first (g + 1) 0 _ h2 (by omega) rfl ⟨xs_tr s1 s2 (by decide) (by decide), fun k hk => by rw [s2 70 (by decide)]; exact l1 k hk, l2⟩ (fun j' hj' => by omega)
  refine xq_go hK [4] 60 ?_
  refine ⟨lev - 1, by omega, c_M_tellsOf (by omega) (by omega) hh (fun e => start 10 ?_) (fun e => start _ ?_)⟩
  · rw [← hstE, xf_stp, if_pos e]
  · rw [← hstE, xf_stp, if_neg (by omega)]
end
section
/-! THE STATE AS THE REFERENCE'S ROW OF NUMBERS -/
/-- the first place of w below n, or -1 -/
def xf_ix (f : Int → Int) (w : Int) : Nat → Int
  | 0 => -1
  | n + 1 => if xf_ix f w n = -1 then (if f n = w then (n : Int) else -1) else xf_ix f w n
theorem xf_ix_bd (f : Int → Int) (w : Int) : ∀ n, -1 ≤ xf_ix f w n ∧ xf_ix f w n < n
  | 0 => by rw [xf_ix]; omega
  | n + 1 => by
    have := xf_ix_bd f w n
    rw [xf_ix]
    repeat' split
    all_goals omega
theorem xf_ix_none {f : Int → Int} {w : Int} : ∀ {n : Nat}, (∀ k : Nat, k < n → f k ≠ w) → xf_ix f w n = -1
  | 0, _ => rfl
  | n + 1, h => by
    rw [xf_ix, if_pos (xf_ix_none (fun k hk => h k (by omega))), if_neg (h n (by omega))]
theorem xf_ix_stay {f : Int → Int} {w : Int} {i : Nat} : ∀ (d : Nat), xf_ix f w i ≠ -1 → xf_ix f w (i + d) = xf_ix f w i
  | 0, _ => rfl
  | d + 1, h => by
    have e := xf_ix_stay d h
    show xf_ix f w (i + d + 1) = _
    rw [xf_ix, if_neg (by rw [e]; exact h), e]
theorem xf_ix_hit {f : Int → Int} {w : Int} {i n : Nat} (hi : i < n) (h1 : ∀ k : Nat, k < i → f k ≠ w) (h2 : f i = w) : xf_ix f w n = i := by
  have e : xf_ix f w (i + 1) = i := by rw [xf_ix, if_pos (xf_ix_none h1), if_pos h2]
  rw [show n = i + 1 + (n - (i + 1)) by omega, xf_ix_stay _ (by rw [e]; omega), e]
theorem xf_ix_at {f : Int → Int} {w : Int} : ∀ {n : Nat}, xf_ix f w n ≠ -1 → f (xf_ix f w n) = w
  | 0, h => absurd rfl h
  | n + 1, h => by
    rw [xf_ix] at h ⊢
    split
    · rename_i h1
      rw [if_pos h1] at h
      split
      · assumption
      · rename_i h2
        rw [if_neg h2] at h
        exact absurd rfl h
    · rename_i h1
      exact xf_ix_at h1
theorem xf_ix_no {f : Int → Int} {w : Int} {n : Nat} (h : xf_ix f w n = -1) : ∀ k : Nat, k < n → f k ≠ w := by
  intro k hk hz
  induction n with
  | zero => omega
  | succ n ih =>
    rw [xf_ix] at h
    split at h
    · rename_i h1
      split at h
      · omega
      · rename_i h2
        by_cases hkn : k = n
        · rw [hkn] at hz; exact h2 hz
        · exact ih h1 (by omega)
    · rename_i h1
      exact h1 h
theorem xf_ix_congr {f g : Int → Int} {w : Int} : ∀ {n : Nat}, (∀ k : Nat, k < n → f k = g k) → xf_ix f w n = xf_ix g w n
  | 0, _ => rfl
  | n + 1, h => by rw [xf_ix, xf_ix, xf_ix_congr (fun k hk => h k (by omega)), h n (by omega)]
/-- the number in THE LIST of a word -/
def xf_num (m : Int → Int) (w : Int) : Int := xf_ix (fun k => m (18 + k)) w (m 11).toNat
/-- among the LEFT -/
def xf_lft (m : Int → Int) (w : Int) : Prop := ∃ k : Nat, (k : Int) < m 16 ∧ m (104 + k) = w
/-- LIMIT of the newest telephone -/
def xf_lim (m : Int → Int) : Int := if m 17 = -1 then 12 else m (234 + m 17)
/-- what the reference's row is fit to be -/
def xf_VM (m : Int → Int) : Prop :=
  (0 ≤ m 11 ∧ m 11 ≤ 8) ∧ (∀ i : Int, 0 ≤ i → i < m 11 → xf_wd (m (18 + i)) ∧ (0 ≤ m (2 + i) ∧ m (2 + i) ≤ 99) ∧ (0 ≤ m (26 + i) ∧ m (26 + i) ≤ 255)) ∧
  (0 ≤ m 10 ∧ m 10 ≤ 5) ∧ (∀ i : Int, 0 ≤ i → i < m 10 → (0 ≤ m (34 + i) ∧ m (34 + i) ≤ 6) ∧ (0 ≤ m (39 + i) ∧ m (39 + i) ≤ 9) ∧ ∀ k : Int, 0 ≤ k → k < 4 → 0 ≤ m (44 + 4 * i + k) ∧ m (44 + 4 * i + k) ≤ 9) ∧
  (0 ≤ m 16 ∧ m 16 ≤ 6) ∧ (0 ≤ m 1 ∧ m 1 ≤ 1000000) ∧ (-1 ≤ m 17 ∧ m 17 ≤ 4) ∧ (0 ≤ xf_stp m ∧ xf_stp m ≤ 99) ∧ (0 ≤ xf_lim m ∧ xf_lim m ≤ 99)
theorem c_M_indexOf {lev : Nat} {h : xq_H} {Q : Option xq_V → xq_H → Prop} {w : Int} (hl : 1 ≤ lev) (hn : 0 ≤ h 65 11 ∧ h 65 11 ≤ 8) (h1 : Q (some (xI (xf_num (h 65) w))) h) : xq_met lev y_M_indexOf [xR 64, xI w] 81 h Q := by
  refine en_M_indexOf (by omega) (fun K hK => ?_)
  unfold xf_num at h1
  have loop : ∀ (d i : Nat) (iI : Int), (i : Int) + d = h 65 11 → iI = i → (∀ k : Nat, k < i → h 65 (18 + k) ≠ w) → K 2 [some (xR 64), some (xI w), some (xI iI)] [] 81 h := by
    intro d
    induction d with
    | zero =>
      intro i iI hd ei hno
      refine xq_go hK [2] 60 ?_
      refine And.intro (by omega) ?_
      refine And.intro (fun c => ?_) (fun c => absurd c (by omega))
      rw [xf_ix_none (fun k hk => hno k (by omega))] at h1
      exact h1
    | succ d ih =>
      intro i iI hd ei hno
      refine xq_go hK [2] 60 ?_
      refine And.intro (by omega) ?_
      refine And.intro (fun c => absurd c (by omega)) (fun _ => ?_)
      refine And.intro (by omega) ?_
      refine And.intro (by omega) ?_
      refine And.intro (fun c => ?_) (fun c => ?_)
      · refine And.intro (by omega) ?_
        refine ih (i + 1) _ (by omega) (by omega) (fun k hk => ?_)
        by_cases hki : k = i
        · rw [hki, ← ei]; exact c
        · exact hno k (by omega)
      · rw [ei] at c ⊢
        rw [xf_ix_hit (i := i) (by omega) hno c] at h1
        exact h1
  refine xq_go hK [2] 60 ?_
  exact loop (h 65 11).toNat 0 _ (by omega) rfl (fun k hk => by omega)
theorem c_W_numberOf {lev : Nat} {h : xq_H} {Q : Option xq_V → xq_H → Prop} {w : Int} (hl : 1 ≤ lev) (hn : 0 ≤ h 3 5 ∧ h 3 5 ≤ 8) (h1 : Q (some (xI (xf_ix (h 4) w (h 3 5).toNat))) h) : xq_met lev y_W_numberOf [xR 3, xI w] 81 h Q := by
  refine en_W_numberOf (by omega) (fun K hK => ?_)
  have loop : ∀ (d i : Nat) (iI : Int), (i : Int) + d = h 3 5 → iI = i → (∀ k : Nat, k < i → h 4 k ≠ w) → K 2 [some (xR 3), some (xI w), some (xI iI)] [] 81 h := by
    intro d
    induction d with
    | zero =>
      intro i iI hd ei hno
      refine xq_go hK [2] 60 ?_
      refine And.intro (fun c => ?_) (fun c => absurd c (by omega))
      rw [xf_ix_none (fun k hk => hno k (by omega))] at h1
      exact h1
    | succ d ih =>
      intro i iI hd ei hno
      refine xq_go hK [2] 60 ?_
      refine And.intro (fun c => absurd c (by omega)) (fun _ => ?_)
      refine And.intro (by omega) ?_
      refine And.intro (fun c => ?_) (fun c => ?_)
      · refine And.intro (by omega) ?_
        refine ih (i + 1) _ (by omega) (by omega) (fun k hk => ?_)
        by_cases hki : k = i
        · rw [hki, ← ei]; exact c
        · exact hno k (by omega)
      · rw [ei] at c ⊢
        rw [xf_ix_hit (i := i) (by omega) hno c] at h1
        exact h1
  refine xq_go hK [2] 60 ?_
  exact loop (h 3 5).toNat 0 _ (by omega) rfl (fun k hk => by omega)
theorem c_W_has {lev : Nat} {h : xq_H} {Q : Option xq_V → xq_H → Prop} {i : Int} (hl : 1 ≤ lev) (h1 : 0 ≤ i ∧ i < h 3 5 → Q (some (xI 1)) h) (h0 : ¬ (0 ≤ i ∧ i < h 3 5) → Q (some (xI 0)) h) : xq_met lev y_W_has [xR 3, xI i] 81 h Q := by
  refine en_W_has hl (fun K hK => ?_)
  refine xq_go hK [] 60 ?_
  repeat' (first | (refine And.intro ?_ ?_) | (intro _))
  all_goals first | omega | exact h1 (by omega) | exact h0 (by omega)
theorem c_C_has {lev : Nat} {h : xq_H} {Q : Option xq_V → xq_H → Prop} {i : Int} (hl : 1 ≤ lev) (h1 : 0 ≤ i ∧ i < h 9 3 → Q (some (xI 1)) h) (h0 : ¬ (0 ≤ i ∧ i < h 9 3) → Q (some (xI 0)) h) : xq_met lev y_C_has [xR 9, xI i] 81 h Q := by
  refine en_C_has hl (fun K hK => ?_)
  refine xq_go hK [] 60 ?_
  repeat' (first | (refine And.intro ?_ ?_) | (intro _))
  all_goals first | omega | exact h1 (by omega) | exact h0 (by omega)
theorem c_M_isMender {lev : Nat} {h : xq_H} {Q : Option xq_V → xq_H → Prop} {i : Int} (hl : 2 ≤ lev) (hm : 0 ≤ h 65 10 ∧ h 65 10 ≤ 5) (h1 : 0 ≤ i ∧ i < h 65 10 → Q (some (xI 1)) h) (h0 : ¬ (0 ≤ i ∧ i < h 65 10) → Q (some (xI 0)) h) : xq_met lev y_M_isMender [xR 64, xI i] 81 h Q := by
  refine en_M_isMender (by omega) (fun K hK => ?_)
  refine xq_go hK [] 60 ?_
  refine And.intro (by omega) ?_
  refine And.intro (by omega) ?_
  refine ⟨lev - 1, by omega, c_M_in (by omega) (fun hi => ?_) (fun hi => ?_)⟩
  · exact And.intro (Or.inr rfl) (h1 (by omega))
  · exact And.intro (Or.inl rfl) (h0 (by omega))
theorem c_M_isListed {lev : Nat} {h : xq_H} {Q : Option xq_V → xq_H → Prop} {i : Int} (hl : 2 ≤ lev) (hm : 0 ≤ h 65 11 ∧ h 65 11 ≤ 8) (h1 : 0 ≤ i ∧ i < h 65 11 → Q (some (xI 1)) h) (h0 : ¬ (0 ≤ i ∧ i < h 65 11) → Q (some (xI 0)) h) : xq_met lev y_M_isListed [xR 64, xI i] 81 h Q := by
  refine en_M_isListed (by omega) (fun K hK => ?_)
  refine xq_go hK [] 60 ?_
  refine And.intro (by omega) ?_
  refine And.intro (by omega) ?_
  refine ⟨lev - 1, by omega, c_M_in (by omega) (fun hi => ?_) (fun hi => ?_)⟩
  · exact And.intro (Or.inr rfl) (h1 (by omega))
  · exact And.intro (Or.inl rfl) (h0 (by omega))
theorem c_K_kindOf {lev : Nat} {h : xq_H} {Q : Option xq_V → xq_H → Prop} {i : Int} (hl : 2 ≤ lev) (hi : 0 ≤ i ∧ i < h 9 3) (hm : h 9 3 ≤ 5) (h1 : Q (some (xI (h 10 i))) h) : xq_met lev y_K_kindOf [xR 1, xI i] 81 h Q := by
  refine en_K_kindOf (by omega) (fun K hK => ?_)
  refine xq_go hK [] 60 ?_
  refine ⟨lev - 1, by omega, c_C_has (by omega) (fun _ => ?_) (fun z => absurd hi z)⟩
  refine And.intro (fun c => absurd c (by decide)) (fun _ => ?_)
  refine And.intro (by omega) ?_
  exact h1
theorem c_M_isLeft {lev : Nat} {h : xq_H} {Q : Option xq_V → xq_H → Prop} {w : Int} (hl : 1 ≤ lev) (hn : 0 ≤ h 65 16 ∧ h 65 16 ≤ 6) (h1 : xf_lft (h 65) w → Q (some (xI 1)) h) (h0 : ¬ xf_lft (h 65) w → Q (some (xI 0)) h) : xq_met lev y_M_isLeft [xR 64, xI w] 81 h Q := by
  refine en_M_isLeft (by omega) (fun K hK => ?_)
  have loop : ∀ (d i : Nat) (iI b : Int), (i : Int) + d = h 65 16 → iI = i → (b = 1 ∧ (∃ k : Nat, k < i ∧ h 65 (104 + k) = w) ∨ b = 0 ∧ ¬ ∃ k : Nat, k < i ∧ h 65 (104 + k) = w) → K 4 [some (xR 64), some (xI w), some (xI b), some (xI iI)] [] 81 h := by
    intro d
    induction d with
    | zero =>
      intro i iI b hd ei hb
      refine xq_go hK [4] 60 ?_
      refine And.intro (by omega) ?_
      refine And.intro (fun c => ?_) (fun c => absurd c (by omega))
      rcases hb with ⟨rfl, k, hk1, hk2⟩ | ⟨rfl, hb⟩
      · exact And.intro (Or.inr rfl) (h1 ⟨k, by omega, hk2⟩)
      · exact And.intro (Or.inl rfl) (h0 (fun ⟨k, hk1, hk2⟩ => hb ⟨k, by omega, hk2⟩))
    | succ d ih =>
      intro i iI b hd ei hb
      refine xq_go hK [4] 60 ?_
      refine And.intro (by omega) ?_
      refine And.intro (fun c => absurd c (by omega)) (fun _ => ?_)
      rcases hb with ⟨rfl, k, hk1, hk2⟩ | ⟨rfl, hb⟩
      · refine And.intro (fun _ => ?_) (fun z => absurd z (by decide))
        refine And.intro (by omega) ?_
        exact ih (i + 1) _ _ (by omega) (by omega) (Or.inl ⟨rfl, k, by omega, hk2⟩)
      · refine And.intro (fun z => absurd rfl z) (fun _ => ?_)
        refine And.intro (by omega) ?_
        refine And.intro (by omega) ?_
        rw [ei]
        refine And.intro (fun c => ?_) (fun c => ?_)
        · refine And.intro (by omega) ?_
          refine ih (i + 1) _ _ (by omega) (by omega) (Or.inr ⟨rfl, fun ⟨k, hk1, hk2⟩ => ?_⟩)
          by_cases hki : k = i
          · exact c (by rw [← hki]; exact hk2)
          · exact hb ⟨k, by omega, hk2⟩
        · refine And.intro (by omega) ?_
          exact ih (i + 1) _ _ (by omega) (by omega) (Or.inl ⟨rfl, i, by omega, c⟩)
  refine xq_go hK [4] 60 ?_
  exact loop (h 65 16).toNat 0 _ _ (by omega) rfl (Or.inr ⟨rfl, fun ⟨k, hk1, _⟩ => by omega⟩)
theorem c_T_isLeft {lev : Nat} {h : xq_H} {Q : Option xq_V → xq_H → Prop} {w : Int} (hl : 1 ≤ lev) (hn : 0 ≤ h 13 5 ∧ h 13 5 ≤ 6) (h1 : (∃ k : Nat, (k : Int) < h 13 5 ∧ h 16 k = w) → Q (some (xI 1)) h) (h0 : (¬ ∃ k : Nat, (k : Int) < h 13 5 ∧ h 16 k = w) → Q (some (xI 0)) h) : xq_met lev y_T_isLeft [xR 13, xI w] 81 h Q := by
  refine en_T_isLeft (by omega) (fun K hK => ?_)
  have loop : ∀ (d i : Nat) (iI : Int), (i : Int) + d = h 13 5 → iI = i → (∀ k : Nat, k < i → h 16 k ≠ w) → K 2 [some (xR 13), some (xI w), some (xI iI)] [] 81 h := by
    intro d
    induction d with
    | zero =>
      intro i iI hd ei hno
      refine xq_go hK [2] 60 ?_
      refine And.intro (fun c => ?_) (fun c => absurd c (by omega))
      exact And.intro (Or.inl rfl) (h0 (fun ⟨k, hk1, hk2⟩ => hno k (by omega) hk2))
    | succ d ih =>
      intro i iI hd ei hno
      refine xq_go hK [2] 60 ?_
      refine And.intro (fun c => absurd c (by omega)) (fun _ => ?_)
      refine And.intro (by omega) ?_
      rw [ei]
      refine And.intro (fun c => ?_) (fun c => ?_)
      · refine And.intro (by omega) ?_
        refine ih (i + 1) _ (by omega) (by omega) (fun k hk => ?_)
        by_cases hki : k = i
        · rw [hki]; exact c
        · exact hno k (by omega)
      · exact And.intro (Or.inr rfl) (h1 ⟨i, by omega, c⟩)
  refine xq_go hK [2] 60 ?_
  exact loop (h 13 5).toNat 0 _ (by omega) rfl (fun k hk => by omega)
end
section
/-! BITS OF SMALL NUMBERS -/
theorem xb_nat {n : Nat} (h : n < 4294967296) : (Int32.ofInt (n : Int)).toBitVec = BitVec.ofNat 32 n := by
  show BitVec.ofInt 32 (n : Int) = _
  exact BitVec.ofInt_natCast ..
theorem xb_toInt {x : Int32} {n : Nat} (hn : n < 2147483648) (h : x.toBitVec = BitVec.ofNat 32 n) : x.toInt = n := by
  have e : x = Int32.ofInt (n : Int) := Int32.toBitVec_inj.mp (by rw [h, xb_nat (by omega)])
  rw [e, xi_of (by omega)]
theorem xb_andN {n k : Nat} (hn : n < 2147483648) (hk : k < 4294967296) (x : Int32) (hx : x.toBitVec = BitVec.ofNat 32 k) : (Int32.ofInt (n : Int) &&& x).toInt = ((n &&& k : Nat) : Int) := by
  apply xb_toInt
  · exact Nat.lt_of_le_of_lt Nat.and_le_left hn
  · show (Int32.ofInt (n : Int)).toBitVec &&& x.toBitVec = _
    rw [hx, xb_nat (by omega), BitVec.ofNat_and]
theorem xb_orN {n k : Nat} (hn : n < 2147483648) (hk : k < 2147483648) : xq_or n k = ((n ||| k : Nat) : Int) := by
  unfold xq_or
  apply xb_toInt
  · exact Nat.or_lt_two_pow (n := 31) hn hk
  · show (Int32.ofInt (n : Int)).toBitVec ||| (Int32.ofInt (k : Int)).toBitVec = _
    rw [xb_nat (by omega), xb_nat (by omega), BitVec.ofNat_or]
theorem xb_xorN {n k : Nat} (hn : n < 2147483648) (hk : k < 2147483648) : xq_xor n k = ((n ^^^ k : Nat) : Int) := by
  unfold xq_xor
  apply xb_toInt
  · exact Nat.xor_lt_two_pow (n := 31) hn hk
  · show (Int32.ofInt (n : Int)).toBitVec ^^^ (Int32.ofInt (k : Int)).toBitVec = _
    rw [xb_nat (by omega), xb_nat (by omega), BitVec.ofNat_xor]
theorem xb_and1 {x : Int} (h : 0 ≤ x ∧ x ≤ 2147483647) : xq_and x 1 = x % 2 := by
  obtain ⟨n, rfl⟩ := Int.eq_ofNat_of_zero_le h.1
  unfold xq_and
  rw [xb_andN (k := 1) (by omega) (by decide) _ rfl, Nat.and_one_is_mod]
  omega
theorem xb_shr1 {x : Int} (h : 0 ≤ x ∧ x ≤ 2147483647) : xq_shr x 1 = x / 2 := by
  obtain ⟨n, rfl⟩ := Int.eq_ofNat_of_zero_le h.1
  unfold xq_shr
  have e := pk_shrN (n := n) (by omega) (Int32.ofInt 1 &&& 31) 1 (by decide)
  have e2 : Int32.ofInt (n : Int) >>> (Int32.ofInt 1 &&& 31) = Int32.ofInt (((n / 2 : Nat)) : Int) := e
  rw [e2, xi_of (by omega)]
  omega
theorem xb_shl1 {x : Int} (h : 0 ≤ x ∧ x ≤ 1073741823) : xq_shl x 1 = 2 * x := by
  obtain ⟨n, rfl⟩ := Int.eq_ofNat_of_zero_le h.1
  unfold xq_shl
  have e := pk_shlN (n := n) (Int32.ofInt 1 &&& 31) 1 (by decide) (by omega)
  have e2 : Int32.ofInt (n : Int) <<< (Int32.ofInt 1 &&& 31) = Int32.ofInt (((n * 2 : Nat)) : Int) := e
  rw [e2, xi_of (by omega)]
  omega
theorem xb_tb (n : Nat) : n ^^^ 1 = n / 2 * 2 + (1 - n % 2) := by
  apply Nat.eq_of_testBit_eq
  intro i
  cases i with
  | zero => rw [Nat.testBit_xor]; simp only [Nat.testBit_zero]; rcases Nat.mod_two_eq_zero_or_one n with e | e <;> simp [e] <;> omega
  | succ i =>
    rw [Nat.testBit_xor, Nat.testBit_succ, Nat.testBit_succ, Nat.testBit_succ, show (n / 2 * 2 + (1 - n % 2)) / 2 = n / 2 by omega, show 1 / 2 = 0 by decide, Nat.zero_testBit]
    simp
theorem xb_tbo (n : Nat) : n ||| 1 = n / 2 * 2 + 1 := by
  apply Nat.eq_of_testBit_eq
  intro i
  cases i with
  | zero => rw [Nat.testBit_or]; simp only [Nat.testBit_zero]; rcases Nat.mod_two_eq_zero_or_one n with e | e <;> simp [e]
  | succ i =>
    rw [Nat.testBit_or, Nat.testBit_succ, Nat.testBit_succ, Nat.testBit_succ, show (n / 2 * 2 + 1) / 2 = n / 2 by omega, show 1 / 2 = 0 by decide, Nat.zero_testBit]
    simp
theorem xb_tba {n : Nat} (h : n < 2147483648) : n &&& 4294967294 = n / 2 * 2 := by
  apply Nat.eq_of_testBit_eq
  intro i
  cases i with
  | zero => rw [Nat.testBit_and]; simp only [Nat.testBit_zero]; simp
  | succ i =>
    rw [Nat.testBit_and, Nat.testBit_succ, Nat.testBit_succ, Nat.testBit_succ, ← Nat.testBit_and, show 4294967294 / 2 = 2 ^ 31 - 1 by decide, Nat.and_two_pow_sub_one_eq_mod, Nat.mod_eq_of_lt (by omega), show n / 2 * 2 / 2 = n / 2 by omega]
theorem xb_xor1 {x : Int} (h : 0 ≤ x ∧ x ≤ 2147483647) : xq_xor x 1 = x + 1 - 2 * (x % 2) := by
  obtain ⟨n, rfl⟩ := Int.eq_ofNat_of_zero_le h.1
  have e := xb_xorN (n := n) (k := 1) (by omega) (by decide)
  rw [show ((1 : Nat) : Int) = 1 from rfl] at e
  rw [e, xb_tb]
  omega
theorem xb_or0 {x : Int} (h : 0 ≤ x ∧ x ≤ 2147483647) : xq_or x 0 = x := by
  obtain ⟨n, rfl⟩ := Int.eq_ofNat_of_zero_le h.1
  have e := xb_orN (n := n) (k := 0) (by omega) (by decide)
  rw [show ((0 : Nat) : Int) = 0 from rfl] at e
  rw [e, Nat.or_zero]
theorem xb_or1 {x : Int} (h : 0 ≤ x ∧ x ≤ 2147483647) : xq_or x 1 = x + 1 - x % 2 := by
  obtain ⟨n, rfl⟩ := Int.eq_ofNat_of_zero_le h.1
  have e := xb_orN (n := n) (k := 1) (by omega) (by decide)
  rw [show ((1 : Nat) : Int) = 1 from rfl] at e
  rw [e, xb_tbo]
  omega
theorem xb_andm {x b : Int} (h : 0 ≤ x ∧ x ≤ 2147483647) (hb : b = 0 ∨ b = 1) : xq_and x (xq_or b (-2)) = if b = 1 then x else x - x % 2 := by
  obtain ⟨n, rfl⟩ := Int.eq_ofNat_of_zero_le h.1
  rcases hb with rfl | rfl
  · rw [show xq_or 0 (-2) = -2 by decide, if_neg (by decide)]
    unfold xq_and
    rw [xb_andN (k := 4294967294) (by omega) (by decide) _ (by decide), xb_tba (by omega)]
    omega
  · rw [show xq_or 1 (-2) = -1 by decide, if_pos rfl]
    unfold xq_and
    rw [xb_andN (k := 4294967295) (by omega) (by decide) _ (by decide), show 4294967295 = 2 ^ 32 - 1 by decide, Nat.and_two_pow_sub_one_eq_mod, Nat.mod_eq_of_lt (by omega)]
end
section
/-! A TELEPHONE: its clauses as rows of tokens (a test is 0 or more; -1 not, -2 and, -3 or), worked off with a stack -/
noncomputable def xf_b (p : Prop) : Bool := @decide p (Classical.propDecidable p)
theorem xf_b_t {p : Prop} (h : p) : xf_b p = true := by unfold xf_b; exact @decide_eq_true p (Classical.propDecidable p) h
theorem xf_b_f {p : Prop} (h : ¬ p) : xf_b p = false := by unfold xf_b; exact @decide_eq_false p (Classical.propDecidable p) h
def xf_tst (f : Int → Int) (t : Int) : Prop := (t / 8 % 4 = 0 ∧ f (t % 8) < t / 32) ∨ (t / 8 % 4 = 1 ∧ f (t % 8) = t / 32) ∨ (t / 8 % 4 = 2 ∧ t / 32 < f (t % 8))
def xf_wt (t : Int) : Prop := 0 ≤ t ∧ t % 8 ≤ 5 ∧ t / 8 % 4 ≤ 2 ∧ t / 32 ≤ 99
noncomputable def xf_op (f : Int → Int) (t : Int) (st : List Bool) : List Bool :=
  if t = -1 then (match st with | b :: r => (!b) :: r | [] => []) else
  if t = -2 then (match st with | b :: a :: r => (a && b) :: r | s => s) else
  if t = -3 then (match st with | b :: a :: r => (a || b) :: r | s => s) else xf_b (xf_tst f t) :: st
noncomputable def xf_run (f : Int → Int) : List Int → List Bool → List Bool
  | [], st => st
  | t :: ts, st => xf_run f ts (xf_op f t st)
/-- from a stack of s to one of e, never more than 20 -/
def xf_wf : List Int → Nat → Nat → Prop
  | [], s, e => s = e
  | t :: ts, s, e => (xf_wt t ∧ s < 20 ∧ xf_wf ts (s + 1) e) ∨ (t = -1 ∧ 1 ≤ s ∧ xf_wf ts s e) ∨ ((t = -2 ∨ t = -3) ∧ 2 ≤ s ∧ xf_wf ts (s - 1) e)
noncomputable def xf_ev (f : Int → Int) (E : List Int) : Bool := (xf_run f E []).headD false
/-- a clause: its last token (-10 less n: dear; -200 less n: free), and its E -/
abbrev xf_Cl : Type := Int × List Int
def xf_amt (a : Int) : Int := if -200 < a then -10 - a else 200 + a
noncomputable def xf_sum (f : Int → Int) : List xf_Cl → Int
  | [] => 0
  | (a, E) :: P => (if xf_ev f E then xf_amt a else 0) + xf_sum f P
def xf_at (g : Int → Int) : Int → List Int → Prop
  | _, [] => True
  | p, t :: ts => g p = t ∧ xf_at g (p + 1) ts
def xf_flat : List xf_Cl → List Int
  | [] => []
  | (a, E) :: P => E ++ a :: xf_flat P
def xf_okP (P : List xf_Cl) : Prop := ∀ c ∈ P, xf_wf c.2 0 1 ∧ ((-109 ≤ c.1 ∧ c.1 ≤ -10) ∨ (-299 ≤ c.1 ∧ c.1 ≤ -200))
def xf_enc (t : Int) : Int := if 0 ≤ t then t % 8 * 300 + t / 8 % 4 * 100 + t / 32 else t
/-- the class' rows of a telephone -/
def xf_cls (h : xq_H) : Int → Int → List xf_Cl → Prop
  | _, _, [] => True
  | c, p, (a, E) :: P => h 18 c = xf_amt a ∧ h 19 c = p + E.length ∧ xf_at (h 20) p (E.map xf_enc) ∧ xf_cls h (c + 1) (p + E.length) P
def xf_len : List xf_Cl → Nat
  | [] => 0
  | (_, E) :: P => E.length + xf_len P
theorem xf_at_app {g : Int → Int} : ∀ (l1 l2 : List Int) (p : Int), xf_at g p (l1 ++ l2) ↔ xf_at g p l1 ∧ xf_at g (p + l1.length) l2
  | [], l2, p => by simp [xf_at]
  | t :: l1, l2, p => by
    simp only [List.cons_append, xf_at, xf_at_app l1 l2 (p + 1), List.length_cons]
    rw [show p + 1 + (l1.length : Int) = p + ((l1.length + 1 : Nat) : Int) by omega]
    constructor
    · exact fun ⟨a, b, c⟩ => ⟨⟨a, b⟩, c⟩
    · exact fun ⟨⟨a, b⟩, c⟩ => ⟨a, b, c⟩
theorem xf_amt_bd {a : Int} (h : (-109 ≤ a ∧ a ≤ -10) ∨ (-299 ≤ a ∧ a ≤ -200)) : -99 ≤ xf_amt a ∧ xf_amt a ≤ 99 := by
  unfold xf_amt
  split <;> omega
theorem xf_sum_bd (f : Int → Int) : ∀ (P : List xf_Cl), xf_okP P → -99 * (P.length : Int) ≤ xf_sum f P ∧ xf_sum f P ≤ 99 * P.length
  | [], _ => ⟨Int.le_refl _, Int.le_refl _⟩
  | (a, E) :: P, h => by
    have h1 := xf_sum_bd f P (fun c hc => h c (List.mem_cons_of_mem _ hc))
    have h2 := xf_amt_bd (h _ List.mem_cons_self).2
    dsimp only at h2
    rw [xf_sum, List.length_cons]
    split <;> omega
theorem xf_tst_congr {f g : Int → Int} (h : ∀ q : Int, 0 ≤ q → q ≤ 5 → f q = g q) {t : Int} (ht : xf_wt t) : xf_tst f t ↔ xf_tst g t := by
  unfold xf_tst
  have h1 := ht.2.1
  rw [h (t % 8) (by omega) h1]
theorem c_P_passes {lev : Nat} {h : xq_H} {Q : Option xq_V → xq_H → Prop} {t : Int} (hl : 1 ≤ lev) (ht : xf_wt t) (h1 : xf_tst (h 29) t → Q (some (xI 1)) h) (h0 : ¬ xf_tst (h 29) t → Q (some (xI 0)) h) : xq_met lev y_P_passes [xI (xf_enc t), xR 29] 81 h Q := by
  refine en_P_passes (by omega) (fun K hK => ?_)
  obtain ⟨t0, t1, t2, t3⟩ := ht
  have e : xf_enc t = t % 8 * 300 + t / 8 % 4 * 100 + t / 32 := by rw [xf_enc, if_pos t0]
  rw [e]
  obtain ⟨a, ha⟩ : ∃ a, a = t % 8 := ⟨_, rfl⟩
  obtain ⟨b, hb⟩ : ∃ b, b = t / 8 % 4 := ⟨_, rfl⟩
  obtain ⟨c, hc⟩ : ∃ c, c = t / 32 := ⟨_, rfl⟩
  unfold xf_tst at h1 h0
  rw [← ha, ← hb, ← hc] at h1 h0 ⊢
  have e1 : (a * 300 + b * 100 + c) / 300 = a := by omega
  have e2 : (a * 300 + b * 100 + c) % 100 = c := by omega
  have e3 : (a * 300 + b * 100 + c) / 100 % 3 = b := by omega
  refine xq_go hK [21] 60 ?_
  refine And.intro (by omega) ?_
  rw [e1]
  refine And.intro (fun z => absurd z (by omega)) (fun _ => ?_)
  refine And.intro (fun _ => ?_) (fun z => absurd z (by omega))
  refine And.intro (by omega) ?_
  refine And.intro (by omega) ?_
  refine And.intro (by omega) ?_
  rw [e2, e3]
  refine xq_go hK [] 60 ?_
  refine And.intro (fun z => ?_) (fun z => And.intro (fun z2 => ?_) (fun z2 => ?_))
  all_goals refine And.intro (by omega) ?_
  all_goals (repeat' (first | (refine And.intro ?_ ?_) | (intro _)))
  all_goals first | omega | exact h1 (by omega) | exact h0 (by omega)
def xf_bits : List Bool → Int
  | [] => 0
  | b :: r => 2 * xf_bits r + (if b then 1 else 0)
theorem xf_bits_bd : ∀ (st : List Bool), 0 ≤ xf_bits st ∧ xf_bits st < ((2 ^ st.length : Nat) : Int)
  | [] => ⟨Int.le_refl _, by decide⟩
  | b :: r => by
    have := xf_bits_bd r
    rw [xf_bits, List.length_cons, Nat.pow_succ]
    generalize 2 ^ r.length = N at this ⊢
    cases b
    · rw [if_neg (by decide)]; omega
    · rw [if_pos rfl]; omega
theorem xf_bits_20 {st : List Bool} (h : st.length ≤ 20) : 0 ≤ xf_bits st ∧ xf_bits st < 1048576 := by
  have h1 := xf_bits_bd st
  have h2 : 2 ^ st.length ≤ 2 ^ 20 := Nat.pow_le_pow_right (by decide) h
  omega
set_option maxHeartbeats 1000000 in
theorem c_P_holds {lev : Nat} {h : xq_H} {Q : Option xq_V → xq_H → Prop} {p q : Int} {E : List Int} (hl : 2 ≤ lev) (hE : xf_wf E 0 1) (hp : 0 ≤ p) (hq : q = p + E.length) (hq2 : q ≤ 100) (hat : xf_at (h 20) p (E.map xf_enc)) (h1 : xf_ev (h 29) E = true → Q (some (xI 1)) h) (h0 : xf_ev (h 29) E = false → Q (some (xI 0)) h) : xq_met lev y_P_holds [xR 17, xI p, xI q, xR 29] 81 h Q := by
  refine en_P_holds (by omega) (fun K hK => ?_)
  have loop : ∀ (ts : List Int) (st : List Bool) (at0 : Int) (x6 x7 : Option xq_V), xf_wf ts st.length 1 → st.length ≤ 20 → 0 ≤ at0 → at0 + ts.length = q → xf_at (h 20) at0 (ts.map xf_enc) → xf_run (h 29) ts st = xf_run (h 29) E [] → K 4 [some (xR 17), some (xI p), some (xI q), some (xR 29), some (xI (xf_bits st)), some (xI at0), x6, x7] [] 81 h := by
    intro ts
    induction ts with
    | nil =>
      intro st at0 x6 x7 hw h20 ha hb hat hrun
      have bb := xf_bits_20 h20
      simp only [List.length_nil] at hb
      refine xq_go hK [4] 60 ?_
      refine And.intro (fun c => ?_) (fun c => absurd c (by omega))
      rcases st with _ | ⟨b, _ | ⟨b2, r⟩⟩
      · exact absurd (show (0 : Nat) = 1 from hw) (by decide)
      · have e : xf_ev (h 29) E = b := by unfold xf_ev; rw [← hrun]; rfl
        cases b
        · refine And.intro (fun _ => ?_) (fun z => absurd z (by decide))
          exact And.intro (Or.inl rfl) (h0 e)
        · refine And.intro (fun z => absurd z (by decide)) (fun _ => ?_)
          exact And.intro (Or.inr rfl) (h1 e)
      · simp [xf_wf] at hw
    | cons t ts ih =>
      intro st at0 x6 x7 hw h20 ha hb hat hrun
      have bb := xf_bits_20 h20
      simp only [List.length_cons] at hb
      obtain ⟨ht, hat⟩ := hat
      have ih2 := fun (st' : List Bool) (x6 x7 : Option xq_V) (a1 : Int) (e1 : a1 = at0 + 1) (hw' : xf_wf ts st'.length 1) (h20' : st'.length ≤ 20) (hrun' : xf_run (h 29) ts st' = xf_run (h 29) E []) => ih st' a1 x6 x7 hw' h20' (by omega) (by omega) (by rw [e1]; exact hat) hrun'
      have hgo : ∀ (s1 a1 : Int) (st' : List Bool) (x6 x7 : Option xq_V), s1 = xf_bits st' → a1 = at0 + 1 → xf_wf ts st'.length 1 → st'.length ≤ 20 → xf_run (h 29) ts st' = xf_run (h 29) E [] → K 4 [some (xR 17), some (xI p), some (xI q), some (xR 29), some (xI s1), some (xI a1), x6, x7] [] 81 h := by
        intro s1 a1 st' x6 x7 e1 e2 hw' h20' hrun'
        rw [e1]
        exact ih2 st' x6 x7 a1 e2 hw' h20' hrun'
      refine xq_go hK [4] 60 ?_
      refine And.intro (fun c => absurd c (by omega)) (fun _ => ?_)
      refine And.intro (fun c => absurd c (by omega)) (fun _ => ?_)
      refine And.intro (by omega) ?_
      rw [ht]
      rw [xf_run] at hrun
      rcases hw with ⟨hwt, hs, hw⟩ | ⟨rfl, hs, hw⟩ | ⟨ht2, hs, hw⟩
      · have hnn : 0 ≤ xf_enc t := by
          have := hwt.1
          have := hwt.2.1
          rw [xf_enc, if_pos hwt.1]
          omega
        have hop : xf_op (h 29) t st = xf_b (xf_tst (h 29) t) :: st := by
          have := hwt.1
          unfold xf_op
          rw [if_neg (by omega), if_neg (by omega), if_neg (by omega)]
        rw [hop] at hrun
        refine And.intro (fun _ => ?_) (fun c => absurd c (by omega))
        refine And.intro (fun _ => ?_) (fun c => absurd c (by omega))
        refine And.intro (fun _ => ?_) (fun c => absurd c (by omega))
        refine ⟨lev - 1, by omega, c_P_passes (by omega) hwt (fun hy => ?_) (fun hn => ?_)⟩
        · refine And.intro (fun z => absurd z (by decide)) (fun _ => ?_)
          refine And.intro (by omega) ?_
          rw [xf_b_t hy] at hrun
          refine hgo _ _ (true :: st) _ _ ?_ rfl hw (by rw [List.length_cons]; omega) hrun
          rw [xb_shl1 (by omega), xb_or1 (by omega), xf_bits, if_pos rfl]
          omega
        · refine And.intro (fun _ => ?_) (fun z => absurd rfl z)
          refine And.intro (by omega) ?_
          rw [xf_b_f hn] at hrun
          refine hgo _ _ (false :: st) _ _ ?_ rfl hw (by rw [List.length_cons]; omega) hrun
          rw [xb_shl1 (by omega), xb_or0 (by omega), xf_bits, if_neg (by decide)]
          omega
      · rw [show xf_enc (-1) = -1 by decide]
        refine And.intro (fun c => absurd rfl c) (fun _ => ?_)
        refine And.intro (by omega) ?_
        rcases st with _ | ⟨b, r⟩
        · exact absurd hs (by decide)
        · refine hgo _ _ ((!b) :: r) _ _ ?_ rfl hw h20 hrun
          rw [xb_xor1 (by omega), xf_bits, xf_bits]
          cases b <;> simp <;> omega
      · rcases st with _ | ⟨b, _ | ⟨a, r⟩⟩
        · exact absurd hs (by simp)
        · exact absurd hs (by simp)
        · have br := xf_bits_20 (st := r) (by simp only [List.length_cons] at h20; omega)
          have eb : xf_bits (b :: a :: r) = 2 * (2 * xf_bits r + (if a then 1 else 0)) + (if b then 1 else 0) := rfl
          have em : xf_bits (b :: a :: r) % 2 = if b then 1 else 0 := by rw [eb]; cases b <;> simp <;> omega
          have ed : xf_bits (b :: a :: r) / 2 = 2 * xf_bits r + (if a then 1 else 0) := by rw [eb]; cases b <;> simp <;> omega
          have ear : 0 ≤ 2 * xf_bits r + (if a then 1 else 0) ∧ 2 * xf_bits r + (if a then 1 else 0) ≤ 2147483647 := by cases a <;> simp <;> omega
          have hlr : (r.length + 1 ≤ 20) := by simp only [List.length_cons] at h20; omega
          rcases ht2 with rfl | rfl
          · rw [show xf_enc (-2) = -2 by decide]
            refine And.intro (fun _ => ?_) (fun c => absurd c (by decide))
            refine And.intro (fun c => absurd rfl c) (fun _ => ?_)
            refine And.intro (by omega) ?_
            refine hgo _ _ ((a && b) :: r) _ _ ?_ rfl hw hlr hrun
            rw [xb_and1 (by omega), xb_shr1 (by omega), em, ed, xb_andm ear (by cases b <;> simp), xf_bits]
            cases a <;> cases b <;> simp <;> omega
          · rw [show xf_enc (-3) = -3 by decide]
            refine And.intro (fun _ => ?_) (fun c => absurd c (by decide))
            refine And.intro (fun _ => ?_) (fun c => absurd c (by decide))
            refine And.intro (fun c => absurd rfl c) (fun _ => ?_)
            have eo : xq_or (2 * xf_bits r + (if a then 1 else 0)) (if b then 1 else 0) = xf_bits ((a || b) :: r) := by
              rw [xf_bits]
              cases b
              · rw [show (if false = true then (1 : Int) else 0) = 0 from rfl, xb_or0 ear]; cases a <;> simp
              · rw [show (if true = true then (1 : Int) else 0) = 1 from rfl, xb_or1 ear]; cases a <;> simp <;> omega
            refine And.intro (by omega) ?_
            refine hgo _ _ ((a || b) :: r) _ _ ?_ rfl hw hlr hrun
            rw [xb_shr1 (by omega), xb_and1 (by omega), em, ed, eo]
  refine xq_go hK [4] 60 ?_
  exact loop E [] p _ _ hE (Nat.zero_le _) hp hq.symm hat rfl
set_option maxHeartbeats 1000000 in
theorem c_P_extra {lev : Nat} {h : xq_H} {Q : Option xq_V → xq_H → Prop} {P : List xf_Cl} (hl : 3 ≤ lev) (hP : xf_okP P) (hc : h 17 4 = P.length) (h10 : P.length ≤ 10) (hln : xf_len P ≤ 100) (hcl : xf_cls h 0 0 P) (h1 : Q (some (xI (xf_sum (h 29) P))) h) : xq_met lev y_P_extra [xR 17, xR 29] 81 h Q := by
  refine en_P_extra (by omega) (fun K hK => ?_)
  have loop : ∀ (P1 : List xf_Cl) (c p s : Int), xf_okP P1 → 0 ≤ c → c + P1.length = h 17 4 → 0 ≤ p → p + xf_len P1 ≤ 100 → xf_cls h c p P1 → -99 * c ≤ s ∧ s ≤ 99 * c → s + xf_sum (h 29) P1 = xf_sum (h 29) P → K 6 [some (xR 17), some (xR 29), some (xI s), some (xI p), some (xI c)] [] 81 h := by
    intro P1
    induction P1 with
    | nil =>
      intro c p s ho hc0 hc1 hp hp2 hcl hs hsum
      simp only [List.length_nil] at hc1
      refine xq_go hK [6] 60 ?_
      refine And.intro (fun _ => ?_) (fun z => absurd z (by omega))
      simp only [xf_sum, Int.add_zero] at hsum
      rw [hsum]
      exact h1
    | cons cl P1 ih =>
      intro c p s ho hc0 hc1 hp hp2 hcl hs hsum
      obtain ⟨a, E⟩ := cl
      obtain ⟨c1, c2, c3, c4⟩ := hcl
      simp only [List.length_cons] at hc1
      simp only [xf_len] at hp2
      have hok := ho _ List.mem_cons_self
      have hab := xf_amt_bd hok.2
      dsimp only at hab
      rw [xf_sum] at hsum
      have ih2 := fun (s1 : Int) (b1 : -99 * (c + 1) ≤ s1 ∧ s1 ≤ 99 * (c + 1)) (e1 : s1 + xf_sum (h 29) P1 = xf_sum (h 29) P) => ih (c + 1) (p + E.length) s1 (fun q hq => ho q (List.mem_cons_of_mem _ hq)) (by omega) (by omega) (by omega) (by omega) c4 b1 e1
      refine xq_go hK [6] 60 ?_
      refine And.intro (fun z => absurd z (by omega)) (fun _ => ?_)
      refine And.intro (by omega) ?_
      rw [c2]
      refine ⟨lev - 1, by omega, c_P_holds (by omega) hok.1 hp rfl (by omega) c3 (fun hy => ?_) (fun hn => ?_)⟩
      · rw [if_pos hy] at hsum
        refine And.intro (fun z => absurd z (by decide)) (fun _ => ?_)
        refine And.intro (by omega) ?_
        rw [c1]
        refine And.intro (by omega) ?_
        refine And.intro (by omega) ?_
        rw [c2]
        refine And.intro (by omega) ?_
        exact ih2 _ (by omega) (by omega)
      · rw [if_neg (by rw [hn]; decide)] at hsum
        refine And.intro (fun _ => ?_) (fun z => absurd rfl z)
        refine And.intro (by omega) ?_
        rw [c2]
        refine And.intro (by omega) ?_
        exact ih2 _ (by omega) (by omega)
  refine xq_go hK [6] 60 ?_
  exact loop P 0 0 0 hP (Int.le_refl _) (by omega) (Int.le_refl _) (by omega) hcl (by omega) (by omega)
end
section
/-! A TELEPHONE, the reference's side -/
/-- what a test looks at -/
def xf_fact (m : Int → Int) (md ln i : Int) : Int → Int := fun q => if q = 0 then ln else if q = 1 then xf_sz (m (18 + i)) else if q = 2 then m (2 + i) / 10 else if q = 3 then m (34 + md) else if q = 4 then i else m 1 % 10
/-- the newest telephone's clauses stand in the row -/
def xf_ph (m : Int → Int) (P : List xf_Cl) : Prop := xf_okP P ∧ P.length ≤ 10 ∧ (xf_flat P).length ≤ 140 ∧ (m 17 = -1 → P = []) ∧ (0 ≤ m 17 → m (244 + m 17) = (xf_flat P).length ∧ xf_at m (249 + 140 * m 17) (xf_flat P))
def xf_stk (g : Int → Int) : List Bool → Prop
  | [] => True
  | b :: r => g r.length = (if b then 1 else 0) ∧ xf_stk g r
theorem xf_stk_u {g g' : Int → Int} : ∀ (st : List Bool), (∀ k : Nat, k < st.length → g' k = g k) → xf_stk g st → xf_stk g' st
  | [], _, _ => trivial
  | b :: r, h, hs => ⟨by rw [h r.length (by simp)]; exact hs.1, xf_stk_u r (fun k hk => h k (by rw [List.length_cons]; omega)) hs.2⟩
theorem xf_run_app (f : Int → Int) : ∀ (l1 l2 : List Int) (st : List Bool), xf_run f (l1 ++ l2) st = xf_run f l2 (xf_run f l1 st)
  | [], _, _ => rfl
  | t :: l1, l2, st => xf_run_app f l1 l2 _
theorem xu_65_68 {h : xq_H} {k v : Int} : xq_u h 68 k v 65 = h 65 := xq_u_o (by decide)
theorem xf_op_len {f : Int → Int} {t : Int} {st : List Bool} : (xf_wt t → (xf_op f t st).length = st.length + 1) ∧ (t = -1 → 1 ≤ st.length → (xf_op f t st).length = st.length) ∧ (t = -2 ∨ t = -3 → 2 ≤ st.length → (xf_op f t st).length = st.length - 1) := by
  refine ⟨fun h => ?_, fun h h1 => ?_, fun h h1 => ?_⟩
  · have := h.1
    unfold xf_op
    rw [if_neg (by omega), if_neg (by omega), if_neg (by omega)]
    rfl
  · subst h
    rcases st with _ | ⟨b, r⟩
    · exact absurd h1 (by simp)
    · rfl
  · rcases st with _ | ⟨b, _ | ⟨a, r⟩⟩
    · exact absurd h1 (by simp)
    · exact absurd h1 (by simp)
    · rcases h with rfl | rfl <;> rfl
theorem xf_run_len (f : Int → Int) : ∀ (ts : List Int) (st : List Bool) {e : Nat}, xf_wf ts st.length e → (xf_run f ts st).length = e
  | [], st, e, h => h
  | t :: ts, st, e, h => by
    rw [xf_run]
    refine xf_run_len f ts _ ?_
    rcases h with ⟨hwt, hs, hw⟩ | ⟨ht, hs, hw⟩ | ⟨ht, hs, hw⟩
    · rw [xf_op_len.1 hwt]; exact hw
    · rw [xf_op_len.2.1 ht hs]; exact hw
    · rw [xf_op_len.2.2 ht hs]; exact hw
set_option maxHeartbeats 4000000 in
theorem c_M_looks {lev : Nat} {h : xq_H} {Q : Option xq_V → xq_H → Prop} {md ln i : Int} {P : List xf_Cl} (hl : 3 ≤ lev) (hV : xf_VM (h 65)) (hmd : 0 ≤ md ∧ md < h 65 10) (hi : 0 ≤ i ∧ i < h 65 11) (hln : 0 ≤ ln ∧ ln ≤ 5) (hP : xf_ph (h 65) P)
    (hQ : ∀ h', xs_eq [68, 69] h h' → Q (some (xI (xf_sum (xf_fact (h 65) md ln i) P))) h') : xq_met lev y_M_looks [xR 64, xI md, xI ln, xI i] 81 h Q := by
  refine en_M_looks (by omega) (fun K hK => ?_)
  obtain ⟨V1, V2, V3, V4, V5, V6, V7, V8⟩ := hV
  obtain ⟨p1, p2, p3, p4, p5⟩ := hP
  have w1 := V2 i hi.1 hi.2
  have w2 := V4 md hmd.1 hmd.2
  have w3 := w1.1.1
  have w4 := w1.1.2.1
  have w5 := w1.2.1
  have w6 := w2.1
  obtain ⟨f, hf⟩ : ∃ f, f = xf_fact (h 65) md ln i := ⟨_, rfl⟩
  rw [← hf] at hQ
  obtain ⟨fr, hfr⟩ : ∃ fr, fr = 249 + 140 * h 65 17 := ⟨_, rfl⟩
  obtain ⟨mn, hmn⟩ : ∃ mn : Int, mn = (xf_flat P).length := ⟨_, rfl⟩
  let I : xq_H → Prop := fun h' => xs_eq [68, 69] h h' ∧ ∀ q : Int, 0 ≤ q → q ≤ 5 → h' 68 q = f q
  have IU : ∀ h' k v, I h' → I (xq_u h' 69 k v) := fun h' k v hp => ⟨xs_u hp.1 (by decide) _ _, fun q h1 h2 => by rw [xq_u_o (by decide)]; exact hp.2 q h1 h2⟩
  have hj949 : 0 ≤ h 65 17 → fr + mn ≤ 949 := fun _ => by omega
  -- the tokens of one E
  have etok : ∀ (ts rest : List Int) (st : List Bool) (j s topI : Int) (h' : xq_H) (x9 x10 x11 x12 : Option xq_V), xf_wf ts st.length 1 → st.length ≤ 20 → topI = st.length → xf_at (h 65) j (ts ++ rest) → fr ≤ j → 0 ≤ h 65 17 → j + ts.length < fr + mn → I h' → xf_stk (h' 69) st →
      (∀ (jI tI : Int) (h' : xq_H) (x9 x10 x11 x12 : Option xq_V), jI = j + ts.length → tI = 1 → I h' → xf_stk (h' 69) (xf_run f ts st) → K 73 [some (xR 64), some (xI md), some (xI ln), some (xI i), some (xI s), some (xI mn), some (xI fr), some (xI tI), some (xI jI), x9, x10, x11, x12] [] 81 h') →
      K 73 [some (xR 64), some (xI md), some (xI ln), some (xI i), some (xI s), some (xI mn), some (xI fr), some (xI topI), some (xI j), x9, x10, x11, x12] [] 81 h' := by
    intro ts
    induction ts with
    | nil =>
      intro rest st j s topI h' x9 x10 x11 x12 hw h20 et hat hj h17 hjn hI hs next
      exact next j topI h' x9 x10 x11 x12 (by simp) (by have : st.length = 1 := hw; omega) hI hs
    | cons t ts ih =>
      intro rest st j s topI h' x9 x10 x11 x12 hw h20 et hat hj h17 hjn hI hs next
      have h949 := hj949 h17
      obtain ⟨ht, hat⟩ := hat
      simp only [List.length_cons] at hjn
      have e65 : h' 65 = h 65 := hI.1 65 (by decide)
      have hgo : ∀ (st' : List Bool) (a1 t1 : Int) (h'' : xq_H) (x9 x10 x11 x12 : Option xq_V), st' = xf_op f t st → a1 = j + 1 → t1 = st'.length → xf_wf ts st'.length 1 → st'.length ≤ 20 → I h'' → xf_stk (h'' 69) st' → K 73 [some (xR 64), some (xI md), some (xI ln), some (xI i), some (xI s), some (xI mn), some (xI fr), some (xI t1), some (xI a1), x9, x10, x11, x12] [] 81 h'' := by
        intro st' a1 t1 h'' x9 x10 x11 x12 e0 e1 e2 hw' h20' hI' hs'
        rw [e1]
        refine ih rest st' (j + 1) s t1 h'' x9 x10 x11 x12 hw' h20' e2 hat (by omega) h17 (by omega) hI' hs' (fun jI tI h3 y9 y10 y11 y12 ej et3 hI3 hs3 => ?_)
        refine next jI tI h3 y9 y10 y11 y12 (by rw [List.length_cons]; omega) et3 hI3 ?_
        rw [xf_run, ← e0]
        exact hs3
      have vt : h' 65 j = t := by rw [e65]; exact ht
      refine xq_go hK [73, 130, 196] 60 ?_
      refine And.intro (by omega) ?_
      refine And.intro (fun c => absurd c (by omega)) (fun _ => ?_)
      refine And.intro (by omega) ?_
      rw [vt]
      rcases hw with ⟨hwt, hs20, hw⟩ | ⟨rfl, hs1, hw⟩ | ⟨ht2, hs2, hw⟩
      · have g1 := hwt.1
        have g2 := hwt.2.1
        have g3 := hwt.2.2.1
        have hop : xf_op f t st = xf_b (xf_tst f t) :: st := by
          unfold xf_op
          rw [if_neg (by omega), if_neg (by omega), if_neg (by omega)]
        refine And.intro (fun c => absurd c (by omega)) (fun _ => ?_)
        refine And.intro (by omega) ?_
        refine And.intro (by omega) ?_
        refine And.intro (by omega) ?_
        refine And.intro (by omega) ?_
        refine And.intro (by omega) ?_
        have vf : h' 68 (t % 8) = f (t % 8) := hI.2 _ (by omega) g2
        have put : ∀ (b : Bool) (v9 v10 v11 v12 : Option xq_V) (bI : Int), bI = (if b then 1 else 0) → b = xf_b (xf_tst f t) → K 130 [some (xR 64), some (xI md), some (xI ln), some (xI i), some (xI s), some (xI mn), some (xI fr), some (xI topI), some (xI j), v9, v10, v11, v12] [xI bI, xI topI, xR 69] 81 h' := by
          intro b v9 v10 v11 v12 bI eb etr
          refine xq_go hK [73] 60 ?_
          refine And.intro (by rw [eb]; cases b <;> simp) ?_
          refine And.intro (by omega) ?_
          refine And.intro (by omega) ?_
          refine And.intro (by omega) ?_
          refine hgo (b :: st) _ _ _ _ _ _ _ (by rw [hop, etr]) rfl (by rw [List.length_cons]; omega) hw (by rw [List.length_cons]; omega) (IU _ _ _ hI) ⟨?_, xf_stk_u st (fun k hk => ?_) hs⟩
          · rw [xu_rd, if_pos (by omega), eb]
          · rw [xu_ne (by omega)]
        unfold xf_tst at put
        refine And.intro (fun c => ?_) (fun c => ?_)
        · refine And.intro (fun c2 => ?_) (fun c2 => ?_)
          · -- more
            refine And.intro (fun c3 => ?_) (fun c3 => ?_)
            · exact put false _ _ _ _ _ rfl (xf_b_f (by omega)).symm
            · exact put true _ _ _ _ _ rfl (xf_b_t (by omega)).symm
          · refine And.intro (fun c3 => ?_) (fun c3 => ?_)
            · exact put false _ _ _ _ _ rfl (xf_b_f (by omega)).symm
            · exact put true _ _ _ _ _ rfl (xf_b_t (by omega)).symm
        · refine And.intro (fun c2 => ?_) (fun c2 => ?_)
          · exact put false _ _ _ _ _ rfl (xf_b_f (by omega)).symm
          · exact put true _ _ _ _ _ rfl (xf_b_t (by omega)).symm
      · refine And.intro (fun _ => ?_) (fun c => absurd c (by decide))
        refine And.intro (fun c => absurd rfl c) (fun _ => ?_)
        rcases st with _ | ⟨b, r⟩
        · exact absurd hs1 (by simp)
        · simp only [List.length_cons] at et h20
          have vb : h' 69 (topI - 1) = if b then 1 else 0 := by rw [show topI - 1 = (r.length : Int) by omega]; exact hs.1
          refine And.intro (by omega) ?_
          refine And.intro (by omega) ?_
          refine And.intro (by omega) ?_
          have fin1 : ∀ bI : Int, bI = (if !b then 1 else 0) → xf_stk ((xq_u h' 69 (topI - 1) bI) 69) ((!b) :: r) := fun bI eb => ⟨by rw [xu_rd, if_pos (by omega), eb], xf_stk_u r (fun k hk => by rw [xu_ne (by omega)]) hs.2⟩
          refine And.intro (fun c => ?_) (fun c => ?_)
          · refine And.intro (Or.inl rfl) ?_
            refine And.intro (by omega) ?_
            refine And.intro (by omega) ?_
            refine hgo ((!b) :: r) _ _ _ _ _ _ _ rfl rfl (by rw [List.length_cons]; omega) hw h20 (IU _ _ _ hI) (fin1 0 ?_)
            cases b
            · rw [vb] at c; exact absurd rfl c
            · rfl
          · refine And.intro (Or.inr rfl) ?_
            refine And.intro (by omega) ?_
            refine And.intro (by omega) ?_
            refine hgo ((!b) :: r) _ _ _ _ _ _ _ rfl rfl (by rw [List.length_cons]; omega) hw h20 (IU _ _ _ hI) (fin1 1 ?_)
            cases b
            · rfl
            · rw [vb] at c; exact absurd c (by decide)
      · rcases st with _ | ⟨b, _ | ⟨a, r⟩⟩
        · exact absurd hs2 (by simp)
        · exact absurd hs2 (by simp)
        · simp only [List.length_cons] at et h20
          have vb : h' 69 (topI + -1) = if b then 1 else 0 := by rw [show topI + -1 = ((a :: r).length : Int) by rw [List.length_cons]; omega]; exact hs.1
          have va : h' 69 (topI + -1 - 1) = if a then 1 else 0 := by rw [show topI + -1 - 1 = (r.length : Int) by omega]; exact hs.2.1
          have fin2 : ∀ (c : Bool) (bI : Int), bI = (if c then 1 else 0) → xf_stk ((xq_u h' 69 (topI + -1 - 1) bI) 69) (c :: r) := fun c bI eb => ⟨by rw [xu_rd, if_pos (by omega), eb], xf_stk_u r (fun k hk => by rw [xu_ne (by omega)]) hs.2.2⟩
          have put : ∀ (c : Bool) (x9 x10 x11 x12 : Option xq_V) (bI : Int), bI = (if c then 1 else 0) → c :: r = xf_op f t (b :: a :: r) → K 196 [some (xR 64), some (xI md), some (xI ln), some (xI i), some (xI s), some (xI mn), some (xI fr), some (xI (topI + -1)), some (xI j), x9, x10, x11, x12] [xI bI, xI (topI + -1 - 1), xR 69] 81 h' := by
            intro c x9 x10 x11 x12 bI eb eop
            refine xq_go hK [73] 60 ?_
            refine And.intro (by rw [eb]; cases c <;> simp) ?_
            refine And.intro (by omega) ?_
            refine And.intro (by omega) ?_
            exact hgo (c :: r) _ _ _ _ _ _ _ eop rfl (by rw [List.length_cons]; omega) hw (by rw [List.length_cons]; omega) (IU _ _ _ hI) (fin2 c bI eb)
          rcases ht2 with rfl | rfl
          · refine And.intro (fun _ => ?_) (fun c => absurd c (by decide))
            refine And.intro (fun _ => ?_) (fun c => absurd c (by decide))
            refine And.intro (fun c => absurd (by decide) c) (fun _ => ?_)
            refine And.intro (by omega) ?_
            refine And.intro (by omega) ?_
            refine And.intro (fun c => absurd rfl c) (fun _ => ?_)
            refine And.intro (by omega) ?_
            refine And.intro (by omega) ?_
            have hop : xf_op f (-2) (b :: a :: r) = (a && b) :: r := rfl
            refine And.intro (fun c => ?_) (fun c => ?_)
            · refine put false _ _ _ _ _ rfl ?_
              cases a
              · rfl
              · rw [va] at c; exact absurd c (by decide)
            · refine And.intro (by omega) ?_
              have ha : a = true := by
                cases a
                · rw [va] at c; exact absurd rfl c
                · rfl
              refine And.intro (fun c2 => ?_) (fun c2 => ?_)
              · refine put false _ _ _ _ _ rfl ?_
                cases b
                · rw [hop, ha]; rfl
                · rw [vb] at c2; exact absurd c2 (by decide)
              · refine put true _ _ _ _ _ rfl ?_
                cases b
                · rw [vb] at c2; exact absurd rfl c2
                · rw [hop, ha]; rfl
          · refine And.intro (fun _ => ?_) (fun c => absurd c (by decide))
            refine And.intro (fun _ => ?_) (fun c => absurd c (by decide))
            refine And.intro (fun c => absurd (by decide) c) (fun _ => ?_)
            refine And.intro (by omega) ?_
            refine And.intro (by omega) ?_
            refine And.intro (fun _ => ?_) (fun c => absurd c (by decide))
            refine And.intro (by omega) ?_
            refine And.intro (by omega) ?_
            have hop : xf_op f (-3) (b :: a :: r) = (a || b) :: r := rfl
            refine And.intro (fun c => ?_) (fun c => ?_)
            · refine put true _ _ _ _ _ rfl ?_
              cases a
              · rw [va] at c; exact absurd rfl c
              · rfl
            · refine And.intro (by omega) ?_
              have ha : a = false := by
                cases a
                · rfl
                · rw [va] at c; exact absurd c (by decide)
              refine And.intro (fun c2 => ?_) (fun c2 => ?_)
              · refine put false _ _ _ _ _ rfl ?_
                cases b
                · rw [hop, ha]; rfl
                · rw [vb] at c2; exact absurd c2 (by decide)
              · refine put true _ _ _ _ _ rfl ?_
                cases b
                · rw [vb] at c2; exact absurd rfl c2
                · rw [hop, ha]; rfl
  -- clause by clause
  have clause : ∀ (P1 : List xf_Cl) (c : Nat) (j s topI : Int) (h' : xq_H) (x9 x10 x11 x12 : Option xq_V), xf_okP P1 → c + P1.length = P.length → topI = 0 → fr ≤ j → j + (xf_flat P1).length = fr + mn → (P1 ≠ [] → 0 ≤ h 65 17) → xf_at (h 65) j (xf_flat P1) → -99 * (c : Int) ≤ s ∧ s ≤ 99 * (c : Int) → I h' → s + xf_sum f P1 = xf_sum f P →
      K 73 [some (xR 64), some (xI md), some (xI ln), some (xI i), some (xI s), some (xI mn), some (xI fr), some (xI topI), some (xI j), x9, x10, x11, x12] [] 81 h' := by
    intro P1
    induction P1 with
    | nil =>
      intro c j s topI h' x9 x10 x11 x12 hok hc et hj hjn h17 hat hs hI hsum
      simp only [xf_flat, List.length_nil] at hjn
      refine xq_go hK [73] 60 ?_
      refine And.intro (by omega) ?_
      refine And.intro (fun _ => ?_) (fun z => absurd z (by omega))
      simp only [xf_sum, Int.add_zero] at hsum
      rw [hsum]
      exact hQ h' hI.1
    | cons cl P1 ih =>
      intro c j s topI h' x9 x10 x11 x12 hok hc et hj hjn h17 hat hs hI hsum
      obtain ⟨a, E⟩ := cl
      have h17 := h17 (by simp)
      have h949 := hj949 h17
      have hcl := hok _ List.mem_cons_self
      dsimp only at hcl
      have hab := xf_amt_bd hcl.2
      simp only [xf_flat, List.length_append, List.length_cons] at hjn hat hc
      refine etok E (a :: xf_flat P1) [] j s topI h' _ _ _ _ hcl.1 (by simp) (by rw [et]; rfl) hat hj h17 (by omega) hI trivial (fun jI tI h2 y9 y10 y11 y12 ej et2 hI2 hs2 => ?_)
      have hat2 := (xf_at_app E (a :: xf_flat P1) j).mp hat
      obtain ⟨-, hta, hat3⟩ := hat2
      rw [← ej] at hta hat3
      have e65 : h2 65 = h 65 := hI2.1 65 (by decide)
      have vt : h2 65 jI = a := by rw [e65]; exact hta
      -- the stack behind an E
      have hl1 : ∃ b, xf_run f E [] = [b] := by
        have hlen := xf_run_len f E [] hcl.1
        rcases hx : xf_run f E [] with _ | ⟨b, _ | ⟨b2, r⟩⟩
        · rw [hx] at hlen; exact absurd hlen (by decide)
        · exact ⟨b, rfl⟩
        · rw [hx] at hlen; simp at hlen
      obtain ⟨b, hb⟩ := hl1
      rw [hb] at hs2
      have vb : h2 69 0 = if b then 1 else 0 := hs2.1
      have hev : xf_ev f E = b := by unfold xf_ev; rw [hb]; rfl
      rw [xf_sum, hev] at hsum
      have hgo : ∀ (s1 a1 t1 : Int) (x9 x10 x11 x12 : Option xq_V), s1 = s + (if b then xf_amt a else 0) → a1 = jI + 1 → t1 = 0 → K 73 [some (xR 64), some (xI md), some (xI ln), some (xI i), some (xI s1), some (xI mn), some (xI fr), some (xI t1), some (xI a1), x9, x10, x11, x12] [] 81 h2 := by
        intro s1 a1 t1 x9 x10 x11 x12 e1 e2 e3
        refine ih (c + 1) a1 s1 t1 h2 x9 x10 x11 x12 (fun q hq => hok q (List.mem_cons_of_mem _ hq)) (by omega) e3 (by omega) (by omega) (fun _ => h17) (by rw [e2]; exact hat3) ?_ hI2 (by rw [e1, ← hsum]; omega)
        rw [e1]
        cases b
        · simp; omega
        · simp; omega
      refine xq_go hK [73] 90 ?_
      refine And.intro (by omega) ?_
      refine And.intro (fun z => absurd z (by omega)) (fun _ => ?_)
      refine And.intro (by omega) ?_
      rw [vt]
      refine And.intro (fun _ => ?_) (fun z => absurd z (by omega))
      refine And.intro (fun _ => ?_) (fun z => absurd z (by omega))
      refine And.intro (fun _ => ?_) (fun z => absurd z (by omega))
      refine And.intro (by decide) ?_
      rw [vb]
      cases b
      · refine And.intro (fun _ => ?_) (fun z => absurd rfl z)
        refine And.intro (by omega) ?_
        refine And.intro (fun _ => ?_) (fun z => absurd rfl z)
        refine And.intro (by omega) ?_
        refine And.intro (by omega) ?_
        exact hgo _ _ _ _ _ _ _ (by simp) rfl rfl
      · refine And.intro (fun z => absurd z (by decide)) (fun _ => ?_)
        refine And.intro (fun z => ?_) (fun z => ?_)
        · refine And.intro (by omega) ?_
          refine And.intro (fun z => absurd z (by decide)) (fun _ => ?_)
          refine And.intro (fun z2 => absurd z2 z) (fun _ => ?_)
          refine And.intro (by omega) ?_
          refine And.intro (by omega) ?_
          refine And.intro (by omega) ?_
          exact hgo _ _ _ _ _ _ _ (by rw [if_pos rfl, xf_amt, if_neg z]; omega) rfl rfl
        · refine And.intro (by omega) ?_
          refine And.intro (by omega) ?_
          refine And.intro (fun z => absurd z (by decide)) (fun _ => ?_)
          refine And.intro (fun _ => ?_) (fun z2 => absurd z z2)
          refine And.intro (by omega) ?_
          refine And.intro (by omega) ?_
          exact hgo _ _ _ _ _ _ _ (by rw [if_pos rfl, xf_amt, if_pos z]; omega) rfl rfl
  have start : ∀ (mnI : Int) (h' : xq_H), mnI = mn → I h' → K 59 [some (xR 64), some (xI md), some (xI ln), some (xI i), some (xI 0), none, none, none, none, none, none, none, none] [xI mnI] 81 h' := by
    intro mnI h' em hI
    have e65 : h' 65 17 = h 65 17 := by rw [hI.1 65 (by decide)]
    refine xq_go hK [73] 60 ?_
    refine And.intro (by decide) ?_
    rw [e65]
    refine And.intro (by omega) ?_
    refine And.intro (by omega) ?_
    rw [em, ← hfr]
    refine clause P 0 fr 0 0 h' _ _ _ _ p1 (by omega) rfl (Int.le_refl _) (by omega) (fun hne => ?_) ?_ (by omega) hI (by omega)
    · rcases Int.lt_or_le (h 65 17) 0 with z | z
      · exact absurd (p4 (by omega)) hne
      · exact z
    · rcases Int.lt_or_le (h 65 17) 0 with z | z
      · rw [p4 (by omega)]; trivial
      · rw [hfr]; exact (p5 z).2
  refine xq_go hK [59] 90 ?_
  refine And.intro (by decide) ?_
  refine And.intro (by omega) ?_
  refine And.intro (by omega) ?_
  refine ⟨lev - 1, by omega, c_M_size (by omega) (by simp only [xu_65_68]; omega) ?_⟩
  refine And.intro (by decide) ?_
  refine And.intro (by omega) ?_
  refine And.intro (by omega) ?_
  refine And.intro (by simp only [xu_65_68]; omega) ?_
  refine And.intro (by decide) ?_
  refine And.intro (by omega) ?_
  refine And.intro (by omega) ?_
  refine And.intro (by decide) ?_
  refine And.intro (by decide) ?_
  refine And.intro (by decide) ?_
  refine And.intro (by simp only [xu_65_68]; omega) ?_
  refine And.intro (by decide) ?_
  have mem : 68 ∈ [68, 69] := by decide
  have fin0 : ∀ (q : Int), 0 ≤ q → q ≤ 5 → ∀ v0 v1 v2 v3 v4 v5 : Int, v0 = ln → v1 = xf_sz (h 65 (18 + i)) → v2 = h 65 (2 + i) / 10 → v3 = h 65 (34 + md) → v4 = i → v5 = h 65 1 % 10 → xq_u (xq_u (xq_u (xq_u (xq_u (xq_u h 68 0 v0) 68 1 v1) 68 2 v2) 68 3 v3) 68 4 v4) 68 5 v5 68 q = f q := by
    intro q h1 h2 v0 v1 v2 v3 v4 v5 e0 e1 e2 e3 e4 e5
    rw [hf]
    simp only [xu_rd, xf_fact]
    rcases (show q = 0 ∨ q = 1 ∨ q = 2 ∨ q = 3 ∨ q = 4 ∨ q = 5 by omega) with rfl | rfl | rfl | rfl | rfl | rfl <;> simp <;> omega
  refine ⟨lev - 1, by omega, c_M_tellsOf (by omega) (by omega) (by simp only [xu_65_68]; omega) (fun e => start 0 _ ?_ ⟨?_, fun q h1 h2 => fin0 q h1 h2 _ _ _ _ _ _ rfl ?_ ?_ ?_ rfl ?_⟩) (fun e => start _ _ ?_ ⟨?_, fun q h1 h2 => fin0 q h1 h2 _ _ _ _ _ _ rfl ?_ ?_ ?_ rfl ?_⟩)⟩
  · simp only [xu_65_68] at e
    rw [hmn, p4 e]
    rfl
  · exact xs_u (xs_u (xs_u (xs_u (xs_u (xs_u xs_rf mem _ _) mem _ _) mem _ _) mem _ _) mem _ _) mem _ _
  · simp only [xu_65_68]
  · simp only [xu_65_68]
  · simp only [xu_65_68]
  · simp only [xu_65_68]
  · simp only [xu_65_68] at e ⊢
    rw [hmn]
    exact (p5 e).1
  · exact xs_u (xs_u (xs_u (xs_u (xs_u (xs_u xs_rf mem _ _) mem _ _) mem _ _) mem _ _) mem _ _) mem _ _
  · simp only [xu_65_68]
  · simp only [xu_65_68]
  · simp only [xu_65_68]
  · simp only [xu_65_68]
end
section
/-! COST, the reference's side -/
def xf_beg (typed other : Int) : Prop := xf_sz typed < xf_sz other ∧ xf_cut other ((xf_sz other).toNat - (xf_sz typed).toNat) = typed
noncomputable def xf_fr (m : Int → Int) (md typed other : Int) : Int :=
  @ite _ (m (34 + md) = 5 ∧ xf_beg typed other) (Classical.propDecidable _) 2 (xf_far (xf_stp m) (if m (34 + md) = 1 ∨ m (34 + md) = 4 then min 4 (xf_stp m) else xf_stp m) typed other)
theorem xf_far_bd {st nr a b : Int} (ha : xf_wd a) (hb : xf_wd b) (hs : 0 ≤ st ∧ st ≤ 99) (hn : 0 ≤ nr ∧ nr ≤ 99) : 0 ≤ xf_far st nr a b ∧ xf_far st nr a b ≤ 990 := by
  have h1 := xf_szb ha
  have h2 := xf_szb hb
  have h3 := xf_D_bd (sw := xf_sw nr st) (a := fun k => xf_lt a (xf_sz a).toNat k.toNat) (b := fun k => xf_lt b (xf_sz b).toNat k.toNat) hs (fun x y => xf_sw_bd (x := x) (y := y) hn hs) (xf_sz a).toNat (xf_sz b).toNat
  unfold xf_far
  omega
theorem xf_fr_bd {m : Int → Int} {md a b : Int} (ha : xf_wd a) (hb : xf_wd b) (hs : 0 ≤ xf_stp m ∧ xf_stp m ≤ 99) : 0 ≤ xf_fr m md a b ∧ xf_fr m md a b ≤ 990 := by
  have h1 := xf_far_bd (nr := if m (34 + md) = 1 ∨ m (34 + md) = 4 then min 4 (xf_stp m) else xf_stp m) ha hb hs (by split <;> omega)
  unfold xf_fr
  split <;> omega
set_option maxHeartbeats 1000000 in
theorem c_M_farOf {lev : Nat} {h : xq_H} {Q : Option xq_V → xq_H → Prop} {md typed other : Int} (hl : 4 ≤ lev) (ht : xf_wd typed) (ho : xf_wd other) (hV : xf_VM (h 65)) (hmd : 0 ≤ md ∧ md < h 65 10)
    (hQ : ∀ h', xs_eq [70, 71, 72, 73] h h' → Q (some (xI (xf_fr (h 65) md typed other))) h') : xq_met lev y_M_farOf [xR 64, xI md, xI typed, xI other] 81 h Q := by
  refine en_M_farOf (by omega) (fun K hK => ?_)
  obtain ⟨V1, V2, V3, V4, V5, V6, V7, V8, V9⟩ := hV
  have w2 := (V4 md hmd.1 hmd.2).1
  have t1 := ht.1
  have t2 := ht.2.1
  have o1 := ho.1
  have o2 := ho.2.1
  have bt := xf_szb ht
  have bo := xf_szb ho
  -- behind 'begins'
  have tail : ∀ bI : Int, (bI = 1 ∧ xf_beg typed other ∨ bI = 0 ∧ ¬ xf_beg typed other) → K 21 [some (xR 64), some (xI md), some (xI typed), some (xI other), some (xI (h 65 (34 + md))), none] [xI bI] 81 h := by
    intro bI hb
    have far : (¬ (h 65 (34 + md) = 5 ∧ xf_beg typed other)) → K 29 [some (xR 64), some (xI md), some (xI typed), some (xI other), some (xI (h 65 (34 + md))), some (xI bI)] [] 81 h := by
      intro hno
      have hfr : xf_fr (h 65) md typed other = xf_far (xf_stp (h 65)) (if h 65 (34 + md) = 1 ∨ h 65 (34 + md) = 4 then min 4 (xf_stp (h 65)) else xf_stp (h 65)) typed other := by
        unfold xf_fr
        rw [if_neg hno]
      rw [hfr] at hQ
      have call : ∀ nI : Int, (nI = 1 ∧ (h 65 (34 + md) = 1 ∨ h 65 (34 + md) = 4) ∨ nI = 0 ∧ ¬ (h 65 (34 + md) = 1 ∨ h 65 (34 + md) = 4)) → K 41 [some (xR 64), some (xI md), some (xI typed), some (xI other), some (xI (h 65 (34 + md))), some (xI bI)] [xI nI, xI other, xI typed, xR 64] 81 h := by
        intro nI hn
        refine xq_go hK [] 60 ?_
        refine ⟨lev - 1, by omega, c_M_changes (by omega) ht ho (by omega) V7 V8 (fun h' hs => ?_)⟩
        have q := hQ h' hs
        rcases hn with ⟨rfl, hk⟩ | ⟨rfl, hk⟩
        · rw [if_pos hk] at q
          exact q
        · rw [if_neg hk] at q
          exact q
      refine xq_go hK [41] 60 ?_
      refine And.intro (fun c => call 1 (Or.inl ⟨rfl, Or.inl c⟩)) (fun c => ?_)
      refine And.intro (fun c2 => call 0 (Or.inr ⟨rfl, fun z => z.elim c c2⟩)) (fun c2 => call 1 (Or.inl ⟨rfl, Or.inr c2⟩))
    refine xq_go hK [29] 60 ?_
    refine And.intro (fun c => far (fun z => c z.1)) (fun c => ?_)
    refine And.intro (fun c2 => far (fun z => ?_)) (fun c2 => ?_)
    · rcases hb with ⟨rfl, hb⟩ | ⟨rfl, hb⟩
      · exact absurd c2 (by decide)
      · exact hb z.2
    · have q := hQ h xs_rf
      unfold xf_fr at q
      rcases hb with ⟨rfl, hb⟩ | ⟨rfl, hb⟩
      · rw [if_pos ⟨c, hb⟩] at q
        exact q
      · exact absurd rfl c2
  refine xq_go hK [21] 60 ?_
  refine And.intro (by omega) ?_
  refine And.intro (by omega) ?_
  refine ⟨lev - 1, by omega, c_M_size (by omega) (by omega) ?_⟩
  refine ⟨lev - 1, by omega, c_M_size (by omega) (by omega) ?_⟩
  refine And.intro (fun c => tail 0 (Or.inr ⟨rfl, fun z => c z.1⟩)) (fun c => ?_)
  refine ⟨lev - 1, by omega, c_M_size (by omega) (by omega) ?_⟩
  refine ⟨lev - 1, by omega, c_M_first (by omega) (by omega) (n := (xf_sz other).toNat) (m := (xf_sz typed).toNat) (by omega) (by omega) ?_⟩
  refine And.intro (fun c2 => tail 0 (Or.inr ⟨rfl, fun z => c2 z.2⟩)) (fun c2 => tail 1 (Or.inl ⟨rfl, c, c2⟩))
/-- the number of the last word that stands -/
def xf_last (m : Int → Int) : Int := if m 0 = 0 then -1 else xf_num m (m 0)
noncomputable def xf_co (m : Int → Int) (md w i ex : Int) : Int :=
  max 0 (xf_fr m md w (m (18 + i)) + ex - (if (m (34 + md) = 2 ∨ m (34 + md) = 5) ∧ xf_last m ≠ -1 ∧ xq_and (xq_shr (m (26 + xf_last m)) i) 1 = 1 then 5 else 0) + (if m (34 + md) = 6 then m (44 + 4 * md + m 1 % 4) else 0))
theorem xf_num_bd {m : Int → Int} (h : 0 ≤ m 11) (w : Int) : -1 ≤ xf_num m w ∧ xf_num m w < m 11 ∨ xf_num m w = -1 := by
  have := xf_ix_bd (fun k => m (18 + k)) w (m 11).toNat
  unfold xf_num
  omega
theorem xf_last_bd {m : Int → Int} (h : 0 ≤ m 11) : -1 ≤ xf_last m ∧ (xf_last m < m 11 ∨ xf_last m = -1) := by
  have := xf_num_bd h (m 0)
  unfold xf_last
  split <;> omega
set_option maxHeartbeats 2000000 in
theorem c_M_costOf {lev : Nat} {h : xq_H} {Q : Option xq_V → xq_H → Prop} {md typed i : Int} (hl : 5 ≤ lev) (ht : xf_wd typed) (hV : xf_VM (h 65)) (hmd : 0 ≤ md ∧ md < h 65 10) (hi : 0 ≤ i ∧ i < h 65 11) (hex : -990 ≤ h 74 i ∧ h 74 i ≤ 990)
    (hQ : ∀ h', xs_eq [70, 71, 72, 73] h h' → Q (some (xI (xf_co (h 65) md typed i (h 74 i)))) h') : xq_met lev y_M_costOf [xR 64, xI md, xI typed, xI i] 81 h Q := by
  refine en_M_costOf (by omega) (fun K hK => ?_)
  have hV0 := hV
  obtain ⟨V1, V2, V3, V4, V5, V6, V7, V8, V9⟩ := hV
  have w1 := V2 i hi.1 hi.2
  have w2 := V4 md hmd.1 hmd.2
  have w3 := w2.1
  have hfb := xf_fr_bd (md := md) ht w1.1 V8
  have hlb := xf_last_bd V1.1
  unfold xf_co at hQ
  obtain ⟨kd, hkd⟩ : ∃ kd, kd = h 65 (34 + md) := ⟨_, rfl⟩
  rw [← hkd] at hQ w3
  refine xq_go hK [36] 60 ?_
  refine And.intro (by omega) ?_
  refine And.intro (by omega) ?_
  refine And.intro (by omega) ?_
  refine And.intro (by omega) ?_
  refine ⟨lev - 1, by omega, c_M_farOf (by omega) ht w1.1 hV0 hmd (fun h1 hs => ?_)⟩
  have e65 : h1 65 = h 65 := hs 65 (by decide)
  have e74 : h1 74 = h 74 := hs 74 (by decide)
  have q := hQ h1 hs
  generalize hfr : xf_fr (h 65) md typed (h 65 (18 + i)) = fr at hfb q
  -- behind the last one that stands
  have tail : ∀ (s5 lI : Int), s5 = fr + h 74 i → lI = xf_last (h 65) → K 36 [some (xR 64), some (xI md), some (xI typed), some (xI i), some (xI kd), some (xI s5), none] [xI lI] 81 h1 := by
    intro s5 lI e5 el
    have third : ∀ (x6 : Option xq_V) (s5 : Int), s5 = fr + h 74 i - (if (kd = 2 ∨ kd = 5) ∧ xf_last (h 65) ≠ -1 ∧ xq_and (xq_shr (h 65 (26 + xf_last (h 65))) i) 1 = 1 then 5 else 0) → K 64 [some (xR 64), some (xI md), some (xI typed), some (xI i), some (xI kd), some (xI s5), x6] [] 81 h1 := by
      intro x6 s5 e5
      rw [← e5] at q
      have hs5 : -1000 ≤ s5 ∧ s5 ≤ 2000 := by rw [e5]; split <;> omega
      have last : ∀ (r : Int) (x6 : Option xq_V), r = (if kd = 6 then h 65 (44 + 4 * md + h 65 1 % 4) else 0) → K 85 [some (xR 64), some (xI md), some (xI typed), some (xI i), some (xI kd), some (xI s5), x6] [xI r, xI s5] 81 h1 := by
        intro r x6 er
        rw [← er] at q
        have hr : 0 ≤ r ∧ r ≤ 9 := by
          rw [er]
          split
          · exact w2.2.2 (h 65 1 % 4) (by omega) (by omega)
          · omega
        refine xq_go hK [] 60 ?_
        refine And.intro (by omega) ?_
        refine And.intro (fun c => ?_) (fun c => ?_)
        · rw [show max 0 (s5 + r) = s5 + r by omega] at q
          exact q
        · rw [show max 0 (s5 + r) = 0 by omega] at q
          exact q
      refine xq_go hK [85] 60 ?_
      refine And.intro (fun c => last _ _ (by rw [if_neg c])) (fun c => ?_)
      refine And.intro (by omega) ?_
      refine And.intro (by omega) ?_
      refine And.intro (by decide) ?_
      rw [e65]
      refine And.intro (by omega) ?_
      refine And.intro (by omega) ?_
      refine And.intro (by omega) ?_
      refine last _ _ ?_
      rw [if_pos c, e65]
    have sub : ∀ (v : Int), v = (if (kd = 2 ∨ kd = 5) ∧ xf_last (h 65) ≠ -1 ∧ xq_and (xq_shr (h 65 (26 + xf_last (h 65))) i) 1 = 1 then 5 else 0) → K 62 [some (xR 64), some (xI md), some (xI typed), some (xI i), some (xI kd), some (xI s5), some (xI lI)] [xI v, xI s5] 81 h1 := by
      intro v ev
      have hv : 0 ≤ v ∧ v ≤ 5 := by rw [ev]; split <;> omega
      refine xq_go hK [64] 60 ?_
      refine And.intro (by omega) ?_
      exact third _ _ (by rw [← ev, e5])
    have bit : (kd = 2 ∨ kd = 5) → K 44 [some (xR 64), some (xI md), some (xI typed), some (xI i), some (xI kd), some (xI s5), some (xI lI)] [xI s5] 81 h1 := by
      intro hk
      refine xq_go hK [62] 60 ?_
      refine And.intro (fun c => sub _ (by rw [if_neg (fun z => z.2.1 (by omega))])) (fun c => ?_)
      refine And.intro (by omega) ?_
      refine And.intro (by omega) ?_
      rw [e65]
      refine And.intro (fun c2 => sub _ (by rw [el] at c2; rw [if_neg (fun z => c2 z.2.2)])) (fun c2 => sub _ (by rw [el] at c2; rw [if_pos ⟨hk, by omega, c2⟩]))
    refine xq_go hK [44, 62] 60 ?_
    refine And.intro (fun c => bit (Or.inl c)) (fun c => ?_)
    refine And.intro (fun c2 => sub _ (by rw [if_neg (fun z => z.1.elim c c2)])) (fun c2 => bit (Or.inr c2))
  have b74 : h1 74 i = h 74 i := by rw [e74]
  rw [hkd] at tail
  refine And.intro (by omega) ?_
  refine And.intro (by omega) ?_
  refine And.intro (by omega) ?_
  rw [e65]
  refine And.intro (fun c => ?_) (fun c => ?_)
  · refine And.intro (by omega) ?_
    refine ⟨lev - 1, by omega, c_M_indexOf (by omega) (by rw [e65]; exact V1) ?_⟩
    rw [e65]
    refine tail _ _ (by rw [b74]) ?_
    unfold xf_last
    rw [if_neg c]
  · refine tail _ _ (by rw [b74]) ?_
    unfold xf_last
    rw [if_pos c]
end
section
/-! MADE, the reference's side -/
/-- the first least of f below n that is under L, and its number, else L and -1 -/
def xf_mn (f : Nat → Int) (L : Int) : Nat → Int × Int
  | 0 => (L, -1)
  | n + 1 => if f n < (xf_mn f L n).1 then (f n, (n : Int)) else xf_mn f L n
theorem xf_mn_bd (f : Nat → Int) (L : Int) : ∀ n, (xf_mn f L n).1 ≤ L ∧ -1 ≤ (xf_mn f L n).2 ∧ (xf_mn f L n).2 < n ∧ ((xf_mn f L n).2 = -1 → (xf_mn f L n).1 = L) ∧ ((xf_mn f L n).2 ≠ -1 → (xf_mn f L n).1 < L)
  | 0 => ⟨Int.le_refl _, Int.le_refl _, by show (-1 : Int) < 0; omega, fun _ => rfl, fun h => absurd rfl h⟩
  | n + 1 => by
    have := xf_mn_bd f L n
    rw [xf_mn]
    split
    · dsimp only
      refine ⟨by omega, by omega, by omega, fun h => ?_, fun _ => by omega⟩
      omega
    · refine ⟨this.1, this.2.1, by omega, this.2.2.2.1, this.2.2.2.2⟩
theorem xf_mn_cut (f : Nat → Int) {L B : Int} (hLB : L ≤ B) : ∀ n, xf_mn f L n = if (xf_mn f B n).2 ≠ -1 ∧ (xf_mn f B n).1 < L then xf_mn f B n else (L, -1)
  | 0 => by
    rw [if_neg]
    · rfl
    · intro z
      exact z.1 rfl
  | n + 1 => by
    have ih := xf_mn_cut f hLB n
    have hb := xf_mn_bd f B n
    rw [xf_mn, xf_mn, ih]
    by_cases c : (xf_mn f B n).2 ≠ -1 ∧ (xf_mn f B n).1 < L
    · rw [if_pos c]
      by_cases c2 : f n < (xf_mn f B n).1
      · rw [if_pos c2, if_pos]
        refine ⟨?_, ?_⟩ <;> dsimp only <;> omega
      · rw [if_neg c2, if_pos c]
    · rw [if_neg c]
      dsimp only
      by_cases c2 : f n < L
      · have c3 : f n < (xf_mn f B n).1 := by
          by_cases z : (xf_mn f B n).2 = -1
          · have := hb.2.2.2.1 z; omega
          · have : ¬ (xf_mn f B n).1 < L := fun q => c ⟨z, q⟩
            omega
        rw [if_pos c2, if_pos c3, if_pos]
        refine ⟨?_, ?_⟩ <;> dsimp only <;> omega
      · rw [if_neg c2]
        by_cases c3 : f n < (xf_mn f B n).1
        · rw [if_pos c3, if_neg]
          intro z
          exact c2 z.2
        · rw [if_neg c3, if_neg c]
theorem xf_mn_congr {f g : Nat → Int} {L : Int} : ∀ {n : Nat}, (∀ k, k < n → f k = g k) → xf_mn f L n = xf_mn g L n
  | 0, _ => rfl
  | n + 1, h => by rw [xf_mn, xf_mn, xf_mn_congr (fun k hk => h k (by omega)), h n (by omega)]
/-- ten times the cost less the weight -/
noncomputable def xf_pr (m : Int → Int) (P : List xf_Cl) (md w : Int) (i : Nat) : Int := 10 * xf_co m md w i (xf_sum (xf_fact m md (xf_sz w) i) P) - m (2 + i)
noncomputable def xf_made (m : Int → Int) (P : List xf_Cl) (md w : Int) : Int :=
  @ite _ ((m (34 + md) = 3 ∨ m (34 + md) = 6) ∧ xf_lft m w) (Classical.propDecidable _) w
    (if (xf_mn (xf_pr m P md w) (10 * xf_lim m) (m 11).toNat).2 = -1 then w else m (18 + (xf_mn (xf_pr m P md w) (10 * xf_lim m) (m 11).toNat).2))
theorem xf_co_bd {m : Int → Int} {md w i ex : Int} (hV : xf_VM m) (hmd : 0 ≤ md ∧ md < m 10) (hw : xf_wd w) (hi : 0 ≤ i ∧ i < m 11) (hex : -990 ≤ ex ∧ ex ≤ 990) : 0 ≤ xf_co m md w i ex ∧ xf_co m md w i ex ≤ 2000 := by
  obtain ⟨V1, V2, V3, V4, V5, V6, V7, V8, V9⟩ := hV
  have h1 := xf_fr_bd (md := md) hw (V2 i hi.1 hi.2).1 V8
  have h2 := (V4 md hmd.1 hmd.2).2.2 (m 1 % 4) (by omega) (by omega)
  unfold xf_co
  split <;> split <;> omega
theorem xf_sum_b {m : Int → Int} {P : List xf_Cl} (hP : xf_okP P ∧ P.length ≤ 10) (f : Int → Int) : -990 ≤ xf_sum f P ∧ xf_sum f P ≤ 990 := by
  have := xf_sum_bd f P hP.1
  omega
theorem c_M_looksFor {lev : Nat} {h : xq_H} {Q : Option xq_V → xq_H → Prop} {md ln : Int} {P : List xf_Cl} (hl : 4 ≤ lev) (hV : xf_VM (h 65)) (hmd : 0 ≤ md ∧ md < h 65 10) (hln : 0 ≤ ln ∧ ln ≤ 5) (hP : xf_ph (h 65) P)
    (hQ : ∀ h', xs_eq [68, 69, 74] h h' → (∀ i : Nat, (i : Int) < h 65 11 → h' 74 i = xf_sum (xf_fact (h 65) md ln i) P) → Q none h') : xq_met lev y_M_looksFor [xR 64, xI md, xI ln] 81 h Q := by
  refine en_M_looksFor (by omega) (fun K hK => ?_)
  have V1 := hV.1
  have loop : ∀ (d i : Nat) (iI : Int) (h' : xq_H), (i : Int) + d = h 65 11 → iI = i → xs_eq [68, 69, 74] h h' → (∀ k : Nat, k < i → h' 74 k = xf_sum (xf_fact (h 65) md ln k) P) → K 2 [some (xR 64), some (xI md), some (xI ln), some (xI iI)] [] 81 h' := by
    intro d
    induction d with
    | zero =>
      intro i iI h' hd ei hs hall
      have e65 : h' 65 = h 65 := hs 65 (by decide)
      refine xq_go hK [2] 60 ?_
      refine And.intro (by omega) ?_
      rw [e65]
      refine And.intro (fun c => ?_) (fun c => absurd c (by omega))
      exact hQ h' hs (fun k hk => hall k (by omega))
    | succ d ih =>
      intro i iI h' hd ei hs hall
      have e65 : h' 65 = h 65 := hs 65 (by decide)
      refine xq_go hK [2] 60 ?_
      refine And.intro (by omega) ?_
      rw [e65]
      refine And.intro (fun c => absurd c (by omega)) (fun _ => ?_)
      refine ⟨lev - 1, by omega, c_M_looks (by omega) (by rw [e65]; exact hV) (by rw [e65]; exact hmd) (by rw [e65]; omega) hln (by rw [e65]; exact hP) (fun h2 hs2 => ?_)⟩
      refine And.intro (by omega) ?_
      refine And.intro (by omega) ?_
      refine ih (i + 1) _ _ (by omega) (by omega) (xs_u (xs_tr hs hs2 (by decide) (by decide)) (by decide) _ _) (fun k hk => ?_)
      rw [xu_rd, e65, ei]
      by_cases hki : k = i
      · subst hki
        rw [if_pos rfl]
      · rw [if_neg (by omega), hs2 74 (by decide)]
        exact hall k (by omega)
  refine xq_go hK [2] 60 ?_
  exact loop (h 65 11).toNat 0 _ h (by omega) rfl xs_rf (fun k hk => by omega)
set_option maxHeartbeats 1000000 in
theorem c_M_madeOf {lev : Nat} {h : xq_H} {Q : Option xq_V → xq_H → Prop} {md w : Int} {P : List xf_Cl} (hl : 6 ≤ lev) (hV : xf_VM (h 65)) (hmd : 0 ≤ md ∧ md < h 65 10) (hw : xf_wd w) (hP : xf_ph (h 65) P)
    (hex : ∀ i : Nat, (i : Int) < h 65 11 → h 74 i = xf_sum (xf_fact (h 65) md (xf_sz w) i) P)
    (hQ : ∀ h', xs_eq [70, 71, 72, 73] h h' → Q (some (xI (xf_made (h 65) P md w))) h') : xq_met lev y_M_madeOf [xR 64, xI md, xI w] 81 h Q := by
  refine en_M_madeOf (by omega) (fun K hK => ?_)
  have hV0 := hV
  obtain ⟨V1, V2, V3, V4, V5, V6, V7, V8, V9⟩ := hV
  have w3 := (V4 md hmd.1 hmd.2).1
  have hpb : ∀ i : Nat, (i : Int) < h 65 11 → -99 ≤ xf_pr (h 65) P md w i ∧ xf_pr (h 65) P md w i ≤ 20000 := fun i hi => by
    have h1 := xf_co_bd (ex := xf_sum (xf_fact (h 65) md (xf_sz w) i) P) hV0 hmd hw (i := (i : Int)) (by omega) (xf_sum_b (m := h 65) ⟨hP.1, hP.2.1⟩ _)
    have h2 := (V2 i (by omega) hi).2.1
    unfold xf_pr
    omega
  have search : (¬ ((h 65 (34 + md) = 3 ∨ h 65 (34 + md) = 6) ∧ xf_lft (h 65) w)) → K 19 [some (xR 64), some (xI md), some (xI w), some (xI (h 65 (34 + md))), none, none, none, none] [] 81 h := by
    intro hno
    have hm : xf_made (h 65) P md w = if (xf_mn (xf_pr (h 65) P md w) (10 * xf_lim (h 65)) (h 65 11).toNat).2 = -1 then w else h 65 (18 + (xf_mn (xf_pr (h 65) P md w) (10 * xf_lim (h 65)) (h 65 11).toNat).2) := by
      unfold xf_made
      rw [if_neg hno]
    rw [hm, xf_mn_cut (B := 1000000) _ (by omega)] at hQ
    have loop : ∀ (d i : Nat) (iI b l : Int) (x7 : Option xq_V) (h' : xq_H), (i : Int) + d = h 65 11 → iI = i → b = (xf_mn (xf_pr (h 65) P md w) 1000000 i).2 → l = (xf_mn (xf_pr (h 65) P md w) 1000000 i).1 → (x7 = none ∨ ∃ z, x7 = some (xI z)) → xs_eq [70, 71, 72, 73] h h' → K 25 [some (xR 64), some (xI md), some (xI w), some (xI (h 65 (34 + md))), some (xI b), some (xI l), some (xI iI), x7] [] 81 h' := by
      intro d
      induction d with
      | zero =>
        intro i iI b l x7 h' hd ei eb el hx hs
        have e65 : h' 65 = h 65 := hs 65 (by decide)
        have hbd := xf_mn_bd (xf_pr (h 65) P md w) 1000000 i
        rw [show (h 65 11).toNat = i by omega, ← eb, ← el] at hQ
        have q0 := hQ h' hs
        have tail0 : ¬ (b ≠ -1 ∧ l < 10 * xf_lim (h 65)) → Q (some (xI w)) h' := by
          intro z
          rw [if_neg z, if_pos rfl] at q0
          exact q0
        have tail1 : b ≠ -1 → l < 10 * xf_lim (h 65) → Q (some (xI (h 65 (18 + b)))) h' := by
          intro z1 z2
          rw [if_pos (show b ≠ -1 ∧ l < 10 * xf_lim (h 65) from ⟨z1, z2⟩), if_neg (by rw [← eb]; exact z1), ← eb] at q0
          exact q0
        refine xq_go hK [25, 71] 60 ?_
        refine And.intro (by omega) ?_
        rw [e65]
        refine And.intro (fun c => ?_) (fun c => absurd c (by omega))
        refine And.intro (fun c2 => ?_) (fun c2 => ?_)
        · exact tail0 (fun z => z.1 c2)
        · have low : ∀ z : Int, z = xf_lim (h 65) → K 71 [some (xR 64), some (xI md), some (xI w), some (xI (h 65 (34 + md))), some (xI b), some (xI l), some (xI iI), x7] [xI z, xI 10, xI l] 81 h' := by
            intro z ez
            refine xq_go hK [] 60 ?_
            refine And.intro (by omega) ?_
            rw [ez]
            refine And.intro (fun c3 => ?_) (fun c3 => ?_)
            · exact tail0 (fun z => c3 z.2)
            · refine And.intro (by omega) ?_
              refine And.intro (by omega) ?_
              rw [e65]
              exact tail1 c2 c3
          refine ⟨lev - 1, by omega, c_M_tellsOf (by omega) (by omega) (by rw [e65]; exact V7) (fun c3 => ?_) (fun c3 => ?_)⟩
          · refine low _ ?_
            rw [e65] at c3
            unfold xf_lim
            rw [if_pos c3]
          · rw [e65] at c3 ⊢
            refine low _ ?_
            unfold xf_lim
            rw [if_neg (by omega)]
      | succ d ih =>
        intro i iI b l x7 h' hd ei eb el hx hs
        have e65 : h' 65 = h 65 := hs 65 (by decide)
        have hbd := xf_mn_bd (xf_pr (h 65) P md w) 1000000 i
        have w1 := V2 i (by omega) (by omega)
        have hp1 := hpb i (by omega)
        have e74 : h' 74 i = h 74 i := by rw [hs 74 (by decide)]
        refine xq_go hK [25] 60 ?_
        refine And.intro (by omega) ?_
        rw [e65]
        refine And.intro (fun c => absurd c (by omega)) (fun _ => ?_)
        have hxb := xf_sum_b (m := h 65) ⟨hP.1, hP.2.1⟩ (xf_fact (h 65) md (xf_sz w) i)
        refine ⟨lev - 1, by omega, c_M_costOf (by omega) hw (by rw [e65]; exact hV0) (by rw [e65]; exact hmd) (by rw [e65]; omega) (by rw [ei, e74, hex i (by omega)]; exact hxb) (fun h2 hs2 => ?_)⟩
        have e652 : h2 65 = h 65 := (hs2 65 (by decide)).trans e65
        have ecost : xf_co (h' 65) md w iI (h' 74 iI) = xf_co (h 65) md w i (xf_sum (xf_fact (h 65) md (xf_sz w) i) P) := by rw [e65, ei, e74, hex i (by omega)]
        have hcb := xf_co_bd hV0 hmd hw (i := (i : Int)) (by omega) hxb
        have epr : 10 * xf_co (h 65) md w i (xf_sum (xf_fact (h 65) md (xf_sz w) i) P) - h 65 (2 + i) = xf_pr (h 65) P md w i := rfl
        have hs3 := xs_tr hs hs2 (Z := [70, 71, 72, 73]) (by decide) (by decide)
        rw [ecost]
        refine And.intro (by omega) ?_
        refine And.intro (by omega) ?_
        refine And.intro (by omega) ?_
        rw [e652, ei]
        refine And.intro (by omega) ?_
        rw [epr]
        have nx : xf_mn (xf_pr (h 65) P md w) 1000000 (i + 1) = if xf_pr (h 65) P md w i < l then (xf_pr (h 65) P md w i, (i : Int)) else xf_mn (xf_pr (h 65) P md w) 1000000 i := by rw [xf_mn, ← el]
        refine And.intro (fun c => ?_) (fun c => ?_)
        · refine And.intro (fun c2 => ?_) (fun c2 => absurd c2 c)
          refine And.intro (by omega) ?_
          rw [if_neg c] at nx
          exact ih (i + 1) _ _ _ _ _ (by omega) (by omega) (by rw [nx]; exact eb) (by rw [nx]; exact el) (Or.inr ⟨_, rfl⟩) hs3
        · refine And.intro (fun c2 => absurd c c2) (fun c2 => ?_)
          refine And.intro (by omega) ?_
          rw [if_pos c] at nx
          exact ih (i + 1) _ _ _ _ _ (by omega) (by omega) (by rw [nx]) (by rw [nx]) (Or.inr ⟨_, rfl⟩) hs3
    refine xq_go hK [25] 60 ?_
    exact loop (h 65 11).toNat 0 _ _ _ _ h (by omega) rfl rfl rfl (Or.inl rfl) xs_rf
  have asks : (h 65 (34 + md) = 3 ∨ h 65 (34 + md) = 6) → K 13 [some (xR 64), some (xI md), some (xI w), some (xI (h 65 (34 + md))), none, none, none, none] [] 81 h := by
    intro hk
    refine xq_go hK [19] 60 ?_
    refine ⟨lev - 1, by omega, c_M_isLeft (by omega) V5 (fun c => ?_) (fun c => ?_)⟩
    · refine And.intro (fun c2 => absurd c2 (by decide)) (fun _ => ?_)
      have q := hQ h xs_rf
      unfold xf_made at q
      rw [if_pos ⟨hk, c⟩] at q
      exact q
    · refine And.intro (fun _ => search (fun z => c z.2)) (fun c2 => absurd rfl c2)
  refine xq_go hK [13, 19] 60 ?_
  refine And.intro (by omega) ?_
  refine And.intro (by omega) ?_
  refine And.intro (fun c => asks (Or.inl c)) (fun c => ?_)
  refine And.intro (fun c2 => search (fun z => z.1.elim c c2)) (fun c2 => asks (Or.inr c2))
theorem c_M_makesOf {lev : Nat} {h : xq_H} {Q : Option xq_V → xq_H → Prop} {md w : Int} {P : List xf_Cl} (hl : 7 ≤ lev) (hV : xf_VM (h 65)) (hmd : 0 ≤ md ∧ md < h 65 10) (hw : xf_wd w) (hP : xf_ph (h 65) P)
    (hQ : ∀ h', xs_eq [68, 69, 70, 71, 72, 73, 74] h h' → Q (some (xI (xf_made (h 65) P md w))) h') : xq_met lev y_M_makesOf [xR 64, xI md, xI w] 81 h Q := by
  refine en_M_makesOf (by omega) (fun K hK => ?_)
  have b := xf_szb hw
  have w1 := hw.1
  have w2 := hw.2.1
  refine xq_go hK [] 60 ?_
  refine ⟨lev - 1, by omega, c_M_size (by omega) (by omega) ?_⟩
  refine ⟨lev - 1, by omega, c_M_looksFor (by omega) hV hmd (by omega) hP (fun h1 hs1 hex => ?_)⟩
  have e65 : h1 65 = h 65 := hs1 65 (by decide)
  refine ⟨lev - 1, by omega, c_M_madeOf (by omega) (P := P) (by rw [e65]; exact hV) (by rw [e65]; exact hmd) hw (by rw [e65]; exact hP) (by rw [e65]; exact hex) (fun h2 hs2 => ?_)⟩
  rw [e65]
  exact hQ h2 (xs_tr hs1 hs2 (by decide) (by decide))
end
section
/-! WORDS BY THEIR LETTERS -/
theorem xf_cut_add {w : Int} (a : Nat) : ∀ b : Nat, xf_cut (xf_cut w a) b = xf_cut w (a + b)
  | 0 => rfl
  | b + 1 => by
    show xf_cut (xf_cut w a) b / 10 = xf_cut w (a + b) / 10
    rw [xf_cut_add a b]
theorem xf_cut_0 {w : Int} (hw : xf_wd w) {n : Nat} (hn : xf_sz w = n) : xf_cut w n = 0 := by
  have h1 := hw.1
  have h2 := hw.2.1
  have h3 := xf_szc w (by omega)
  rcases h3 with h | h | h | h | h | h
  · omega
  · obtain rfl : n = 1 := by omega
    show w / 10 = 0
    omega
  · obtain rfl : n = 2 := by omega
    show w / 10 / 10 = 0
    omega
  · obtain rfl : n = 3 := by omega
    show w / 10 / 10 / 10 = 0
    omega
  · obtain rfl : n = 4 := by omega
    show w / 10 / 10 / 10 / 10 = 0
    omega
  · obtain rfl : n = 5 := by omega
    show w / 10 / 10 / 10 / 10 / 10 = 0
    omega
theorem xf_cut_ext : ∀ (n : Nat) {a b : Int}, xf_cut a n = 0 → xf_cut b n = 0 → (∀ k : Nat, k < n → xf_cut a k % 10 = xf_cut b k % 10) → a = b
  | 0, a, b, ha, hb, _ => by
    have ha2 : a = 0 := ha
    have hb2 : b = 0 := hb
    rw [ha2, hb2]
  | n + 1, a, b, ha, hb, h => by
    rw [xf_cut_s] at ha hb
    have e := xf_cut_ext n ha hb (fun k hk => by
      have := h (k + 1) (by omega)
      rw [xf_cut_s, xf_cut_s] at this
      exact this)
    have h0 : a % 10 = b % 10 := h 0 (by omega)
    omega
/-- a beginning, letter by letter -/
theorem xf_beg_lt {a b : Int} (ha : xf_wd a) (hb : xf_wd b) {n g : Nat} (hn : xf_sz a = n) (hg : xf_sz b = g) (hng : n ≤ g) : (∀ k : Nat, k < n → xf_lt a n k = xf_lt b g k) ↔ xf_cut b (g - n) = a := by
  constructor
  · intro h
    refine xf_cut_ext n ?_ (xf_cut_0 ha hn) (fun k hk => ?_)
    · rw [xf_cut_add, show g - n + n = g by omega]
      exact xf_cut_0 hb hg
    · have := h (n - 1 - k) (by omega)
      unfold xf_lt at this
      rw [show n - 1 - (n - 1 - k) = k by omega, show g - 1 - (n - 1 - k) = g - n + k by omega] at this
      rw [xf_cut_add]
      exact this.symm
  · intro h k hk
    unfold xf_lt
    rw [← h, xf_cut_add, show g - n + (n - 1 - k) = g - 1 - k by omega]
/-! THE CLASS, held against a row m and a telephone P -/
abbrev xr_base (h : xq_H) (m : Int → Int) (P : List xf_Cl) : Prop :=
  (h 3 5 = m 11) ∧
  (∀ i : Int, 0 ≤ i → i < m 11 → h 4 i = m (18 + i)) ∧
  (∀ i : Int, 0 ≤ i → i < m 11 → h 6 i = m (26 + i)) ∧
  (∀ i : Int, 0 ≤ i → i < m 11 → h 7 i = xf_sz (m (18 + i))) ∧
  (∀ i : Int, 0 ≤ i → i < m 11 → ∀ k : Nat, (k : Int) < xf_sz (m (18 + i)) → h 8 (i * 5 + k) = xf_lt (m (18 + i)) (xf_sz (m (18 + i))).toNat k) ∧
  (h 9 3 = m 10) ∧
  (∀ i : Int, 0 ≤ i → i < m 10 → h 10 i = m (34 + i)) ∧
  (∀ i : Int, 0 ≤ i → i < m 10 → h 11 i = m (39 + i)) ∧
  (∀ i : Int, 0 ≤ i → i < m 10 → ∀ k : Int, 0 ≤ k → k < 4 → h 12 (i * 4 + k) = m (44 + 4 * i + k)) ∧
  (h 13 5 = m 16) ∧
  (∀ i : Int, 0 ≤ i → i < m 16 → h 16 i = m (104 + i)) ∧
  (h 17 0 = xf_lim m) ∧
  (h 17 1 = xf_stp m) ∧
  (h 17 4 = P.length) ∧
  (xf_len P ≤ 100) ∧
  (xf_okP P) ∧
  (P.length ≤ 10) ∧
  (xf_cls h 0 0 P)
theorem xr_base.ls {h : xq_H} {m : Int → Int} {P : List xf_Cl} (B : xr_base h m P) : h 3 5 = m 11 := B.1
theorem xr_base.wd {h : xq_H} {m : Int → Int} {P : List xf_Cl} (B : xr_base h m P) : ∀ i : Int, 0 ≤ i → i < m 11 → h 4 i = m (18 + i) := B.2.1
theorem xr_base.nx {h : xq_H} {m : Int → Int} {P : List xf_Cl} (B : xr_base h m P) : ∀ i : Int, 0 ≤ i → i < m 11 → h 6 i = m (26 + i) := B.2.2.1
theorem xr_base.sz {h : xq_H} {m : Int → Int} {P : List xf_Cl} (B : xr_base h m P) : ∀ i : Int, 0 ≤ i → i < m 11 → h 7 i = xf_sz (m (18 + i)) := B.2.2.2.1
theorem xr_base.lt {h : xq_H} {m : Int → Int} {P : List xf_Cl} (B : xr_base h m P) : ∀ i : Int, 0 ≤ i → i < m 11 → ∀ k : Nat, (k : Int) < xf_sz (m (18 + i)) → h 8 (i * 5 + k) = xf_lt (m (18 + i)) (xf_sz (m (18 + i))).toNat k := B.2.2.2.2.1
theorem xr_base.cs {h : xq_H} {m : Int → Int} {P : List xf_Cl} (B : xr_base h m P) : h 9 3 = m 10 := B.2.2.2.2.2.1
theorem xr_base.kd {h : xq_H} {m : Int → Int} {P : List xf_Cl} (B : xr_base h m P) : ∀ i : Int, 0 ≤ i → i < m 10 → h 10 i = m (34 + i) := B.2.2.2.2.2.2.1
theorem xr_base.vs {h : xq_H} {m : Int → Int} {P : List xf_Cl} (B : xr_base h m P) : ∀ i : Int, 0 ≤ i → i < m 10 → h 11 i = m (39 + i) := B.2.2.2.2.2.2.2.1
theorem xr_base.rw {h : xq_H} {m : Int → Int} {P : List xf_Cl} (B : xr_base h m P) : ∀ i : Int, 0 ≤ i → i < m 10 → ∀ k : Int, 0 ≤ k → k < 4 → h 12 (i * 4 + k) = m (44 + 4 * i + k) := B.2.2.2.2.2.2.2.2.1
theorem xr_base.ll {h : xq_H} {m : Int → Int} {P : List xf_Cl} (B : xr_base h m P) : h 13 5 = m 16 := B.2.2.2.2.2.2.2.2.2.1
theorem xr_base.lf {h : xq_H} {m : Int → Int} {P : List xf_Cl} (B : xr_base h m P) : ∀ i : Int, 0 ≤ i → i < m 16 → h 16 i = m (104 + i) := B.2.2.2.2.2.2.2.2.2.2.1
theorem xr_base.li {h : xq_H} {m : Int → Int} {P : List xf_Cl} (B : xr_base h m P) : h 17 0 = xf_lim m := B.2.2.2.2.2.2.2.2.2.2.2.1
theorem xr_base.st {h : xq_H} {m : Int → Int} {P : List xf_Cl} (B : xr_base h m P) : h 17 1 = xf_stp m := B.2.2.2.2.2.2.2.2.2.2.2.2.1
theorem xr_base.pc {h : xq_H} {m : Int → Int} {P : List xf_Cl} (B : xr_base h m P) : h 17 4 = P.length := B.2.2.2.2.2.2.2.2.2.2.2.2.2.1
theorem xr_base.pl {h : xq_H} {m : Int → Int} {P : List xf_Cl} (B : xr_base h m P) : xf_len P ≤ 100 := B.2.2.2.2.2.2.2.2.2.2.2.2.2.2.1
theorem xr_base.po {h : xq_H} {m : Int → Int} {P : List xf_Cl} (B : xr_base h m P) : xf_okP P := B.2.2.2.2.2.2.2.2.2.2.2.2.2.2.2.1
theorem xr_base.pt {h : xq_H} {m : Int → Int} {P : List xf_Cl} (B : xr_base h m P) : P.length ≤ 10 := B.2.2.2.2.2.2.2.2.2.2.2.2.2.2.2.2.1
theorem xr_base.cl {h : xq_H} {m : Int → Int} {P : List xf_Cl} (B : xr_base h m P) : xf_cls h 0 0 P := B.2.2.2.2.2.2.2.2.2.2.2.2.2.2.2.2.2
/-- the maker's course -/
abbrev xr_crs (h : xq_H) (m : Int → Int) : Prop :=
  (∀ i : Int, 0 ≤ i → i < m 11 → h 26 i = m (2 + i)) ∧
  (h 1 2 = m 1) ∧
  (h 1 3 = xf_last m)
theorem xr_crs.wt {h : xq_H} {m : Int → Int} (B : xr_crs h m) : ∀ i : Int, 0 ≤ i → i < m 11 → h 26 i = m (2 + i) := B.1
theorem xr_crs.ty {h : xq_H} {m : Int → Int} (B : xr_crs h m) : h 1 2 = m 1 := B.2.1
theorem xr_crs.la {h : xq_H} {m : Int → Int} (B : xr_crs h m) : h 1 3 = xf_last m := B.2.2
theorem xf_cls_congr {h h' : xq_H} (e18 : h' 18 = h 18) (e19 : h' 19 = h 19) (e20 : h' 20 = h 20) : ∀ (P : List xf_Cl) (c p : Int), xf_cls h c p P → xf_cls h' c p P
  | [], _, _, _ => trivial
  | (a, E) :: P, c, p, hc => ⟨by rw [e18]; exact hc.1, by rw [e19]; exact hc.2.1, by rw [e20]; exact hc.2.2.1, xf_cls_congr e18 e19 e20 P _ _ hc.2.2.2⟩
theorem xr_base_fr {X : List Nat} {h h' : xq_H} {m : Int → Int} {P : List xf_Cl} (hs : xs_eq X h h') (hX : ∀ o ∈ [3, 4, 6, 7, 8, 9, 10, 11, 12, 13, 16, 17, 18, 19, 20], o ∉ X) (B : xr_base h m P) : xr_base h' m P := by
  have e := fun o ho => hs o (hX o ho)
  refine ⟨?_, ?_, ?_, ?_, ?_, ?_, ?_, ?_, ?_, ?_, ?_, ?_, ?_, ?_, ?_, ?_, ?_, ?_⟩
  · rw [e 3 (by decide)]; exact B.ls
  · rw [e 4 (by decide)]; exact B.wd
  · rw [e 6 (by decide)]; exact B.nx
  · rw [e 7 (by decide)]; exact B.sz
  · rw [e 8 (by decide)]; exact B.lt
  · rw [e 9 (by decide)]; exact B.cs
  · rw [e 10 (by decide)]; exact B.kd
  · rw [e 11 (by decide)]; exact B.vs
  · rw [e 12 (by decide)]; exact B.rw
  · rw [e 13 (by decide)]; exact B.ll
  · rw [e 16 (by decide)]; exact B.lf
  · rw [e 17 (by decide)]; exact B.li
  · rw [e 17 (by decide)]; exact B.st
  · rw [e 17 (by decide)]; exact B.pc
  · exact B.pl
  · exact B.po
  · exact B.pt
  · exact xf_cls_congr (e 18 (by decide)) (e 19 (by decide)) (e 20 (by decide)) _ _ _ B.cl
theorem xr_crs_fr {h h' : xq_H} {m : Int → Int} (e26 : h' 26 = h 26) (e2 : h' 1 2 = h 1 2) (e3 : h' 1 3 = h 1 3) (C : xr_crs h m) : xr_crs h' m := ⟨by rw [e26]; exact C.wt, by rw [e2]; exact C.ty, by rw [e3]; exact C.la⟩
/-- the letters of the word that is typed are laid out -/
def xr_spr (h : xq_H) (w : Int) : Prop := h 1 5 = xf_sz w ∧ ∀ k : Nat, (k : Int) < xf_sz w → h 27 k = xf_lt w (xf_sz w).toNat k
theorem xf_run_congr {f g : Int → Int} (hfg : ∀ q : Int, 0 ≤ q → q ≤ 5 → f q = g q) : ∀ (ts : List Int) (st : List Bool) {s e : Nat}, xf_wf ts s e → xf_run f ts st = xf_run g ts st
  | [], _, _, _, _ => rfl
  | t :: ts, st, s, e, hw => by
    rw [xf_run, xf_run]
    rcases hw with ⟨hwt, hs, hw⟩ | ⟨ht, hs, hw⟩ | ⟨ht, hs, hw⟩
    · have e1 : xf_op f t st = xf_op g t st := by
        have := hwt.1
        unfold xf_op
        rw [if_neg (by omega), if_neg (by omega), if_neg (by omega), if_neg (by omega), if_neg (by omega), if_neg (by omega)]
        rw [show xf_b (xf_tst f t) = xf_b (xf_tst g t) from congrArg xf_b (propext (xf_tst_congr hfg hwt))]
      rw [e1]
      exact xf_run_congr hfg ts _ hw
    · rw [show xf_op f t st = xf_op g t st by unfold xf_op; rw [if_pos ht, if_pos ht]]
      exact xf_run_congr hfg ts _ hw
    · rw [show xf_op f t st = xf_op g t st by rcases ht with rfl | rfl <;> rfl]
      exact xf_run_congr hfg ts _ hw
theorem xf_sum_congr {f g : Int → Int} (hfg : ∀ q : Int, 0 ≤ q → q ≤ 5 → f q = g q) : ∀ (P : List xf_Cl), xf_okP P → xf_sum f P = xf_sum g P
  | [], _ => rfl
  | (a, E) :: P, ho => by
    rw [xf_sum, xf_sum, xf_sum_congr hfg P (fun c hc => ho c (List.mem_cons_of_mem _ hc))]
    have e : xf_ev f E = xf_ev g E := by
      unfold xf_ev
      rw [xf_run_congr hfg E [] (ho _ List.mem_cons_self).1]
    rw [e]
theorem xb_bit8 : ∀ x : Nat, x < 256 → ∀ k : Nat, k < 8 → 0 ≤ xq_and (xq_shr x k) 1 ∧ xq_and (xq_shr x k) 1 ≤ 1 := by decide +kernel
theorem xb_bit {x k : Int} (hx : 0 ≤ x ∧ x ≤ 255) (hk : 0 ≤ k ∧ k < 8) : 0 ≤ xq_and (xq_shr x k) 1 ∧ xq_and (xq_shr x k) 1 ≤ 1 := by
  obtain ⟨a, rfl⟩ := Int.eq_ofNat_of_zero_le hx.1
  obtain ⟨b, rfl⟩ := Int.eq_ofNat_of_zero_le hk.1
  exact xb_bit8 a (by omega) b (by omega)
theorem c_K_isBeginning {lev : Nat} {h : xq_H} {Q : Option xq_V → xq_H → Prop} {m : Int → Int} {P : List xf_Cl} {w i : Int} (hl : 1 ≤ lev) (hV : xf_VM m) (B : xr_base h m P) (hw : xf_wd w) (hS : xr_spr h w) (hi : 0 ≤ i ∧ i < m 11)
    (h1 : xf_beg w (m (18 + i)) → Q (some (xI 1)) h) (h0 : ¬ xf_beg w (m (18 + i)) → Q (some (xI 0)) h) : xq_met lev y_K_isBeginning [xR 1, xI i] 81 h Q := by
  refine en_K_isBeginning (by omega) (fun K hK => ?_)
  have w1 := (hV.2.1 i hi.1 hi.2).1
  have V1 := hV.1
  have b1 := xf_szb hw
  have b2 := xf_szb w1
  have esz := B.sz i hi.1 hi.2
  have esp := hS.1
  obtain ⟨n, hn⟩ : ∃ n : Nat, xf_sz w = n := ⟨(xf_sz w).toNat, by omega⟩
  obtain ⟨g, hg⟩ : ∃ g : Nat, xf_sz (m (18 + i)) = g := ⟨(xf_sz (m (18 + i))).toNat, by omega⟩
  have hsl := hS.2
  have hlt := B.lt i hi.1 hi.2
  unfold xf_beg at h1 h0
  rw [hn, hg] at h1 h0
  rw [hn] at esp hsl
  rw [hg] at esz hlt
  simp only [Int.toNat_natCast] at h1 h0 hsl hlt
  have loop : ∀ (d k : Nat) (kI : Int), n < g → k + d = n → kI = k → (∀ j : Nat, j < k → xf_lt w n j = xf_lt (m (18 + i)) g j) → K 13 [some (xR 1), some (xI i), some (xI kI)] [] 81 h := by
    intro d
    induction d with
    | zero =>
      intro k kI hng hd ek hall
      refine xq_go hK [13] 60 ?_
      refine And.intro (fun c => ?_) (fun c => absurd c (by omega))
      exact And.intro (Or.inr rfl) (h1 ⟨by omega, (xf_beg_lt hw w1 hn hg (by omega)).1 (fun j hj => hall j (by omega))⟩)
    | succ d ih =>
      intro k kI hng hd ek hall
      refine xq_go hK [13] 60 ?_
      refine And.intro (fun c => absurd c (by omega)) (fun _ => ?_)
      refine And.intro (by omega) ?_
      refine And.intro (by omega) ?_
      refine And.intro (by omega) ?_
      refine And.intro (by omega) ?_
      rw [ek, hsl k (by omega), hlt k (by omega)]
      refine And.intro (fun c => ?_) (fun c => ?_)
      · refine And.intro (by omega) ?_
        refine ih (k + 1) _ hng (by omega) (by omega) (fun j hj => ?_)
        by_cases hjk : j = k
        · rw [hjk]; exact c
        · exact hall j (by omega)
      · exact And.intro (Or.inl rfl) (h0 (fun z => c ((xf_beg_lt hw w1 hn hg (by omega)).2 z.2 k (by omega))))
  refine xq_go hK [13] 60 ?_
  refine And.intro (by omega) ?_
  refine And.intro (fun c => ?_) (fun c => ?_)
  · exact loop n 0 _ (by omega) (by omega) rfl (fun j hj => by omega)
  · exact And.intro (Or.inl rfl) (h0 (fun z => by omega))
theorem c_K_factsOf {lev : Nat} {h : xq_H} {Q : Option xq_V → xq_H → Prop} {m : Int → Int} {P : List xf_Cl} {w i md kd : Int} (hl : 2 ≤ lev) (hV : xf_VM m) (B : xr_base h m P) (C : xr_crs h m) (hS : xr_spr h w) (hi : 0 ≤ i ∧ i < m 11) (hk : kd = m (34 + md))
    (hQ : ∀ h', xs_eq [29] h h' → (∀ q : Int, 0 ≤ q → q ≤ 5 → h' 29 q = xf_fact m md (xf_sz w) i q) → Q (some (xR 29)) h') : xq_met lev y_K_factsOf [xR 1, xI kd, xI i] 81 h Q := by
  refine en_K_factsOf (by omega) (fun K hK => ?_)
  have V1 := hV.1
  have V6 := hV.2.2.2.2.2.1
  have wi := (hV.2.1 i hi.1 hi.2).2.1
  have ewt := C.wt i hi.1 hi.2
  have ety := C.ty
  have esz := B.sz i hi.1 hi.2
  have esp := hS.1
  refine xq_go hK [] 60 ?_
  refine And.intro (by omega) ?_
  refine And.intro (by omega) ?_
  refine And.intro (by omega) ?_
  refine And.intro (by omega) ?_
  have o26 : ∀ (k1 k2 v1 v2 : Int), xq_u (xq_u h 29 k1 v1) 29 k2 v2 26 i = h 26 i := fun _ _ _ _ => rfl
  refine And.intro (by rw [o26]; omega) ?_
  refine And.intro (by omega) ?_
  refine And.intro (by omega) ?_
  refine And.intro (by omega) ?_
  have o1 : ∀ (k1 k2 k3 k4 k5 v1 v2 v3 v4 v5 : Int), xq_u (xq_u (xq_u (xq_u (xq_u h 29 k1 v1) 29 k2 v2) 29 k3 v3) 29 k4 v4) 29 k5 v5 1 2 = h 1 2 := fun _ _ _ _ _ _ _ _ _ _ => rfl
  refine ⟨lev - 1, by omega, c_JM_floorMod (by omega) (by rw [o1]; omega) (by omega) ?_⟩
  refine And.intro (by omega) ?_
  refine hQ _ (xs_u (xs_u (xs_u (xs_u (xs_u (xs_u xs_rf (by decide) _ _) (by decide) _ _) (by decide) _ _) (by decide) _ _) (by decide) _ _) (by decide) _ _) (fun q hq0 hq5 => ?_)
  rcases (show q = 0 ∨ q = 1 ∨ q = 2 ∨ q = 3 ∨ q = 4 ∨ q = 5 by omega) with rfl | rfl | rfl | rfl | rfl | rfl
  · exact esp
  · exact esz
  · exact congrArg (fun z => z / 10) ewt
  · exact hk
  · rfl
  · exact congrArg (fun z => z % 10) ety
set_option maxHeartbeats 1000000 in
theorem c_K_spreadFar {lev : Nat} {h : xq_H} {Q : Option xq_V → xq_H → Prop} {m : Int → Int} {P : List xf_Cl} {w i md kd : Int} (hl : 3 ≤ lev) (hV : xf_VM m) (B : xr_base h m P) (hw : xf_wd w) (hS : xr_spr h w) (hi : 0 ≤ i ∧ i < m 11) (hk : kd = m (34 + md))
    (hQ : ∀ h', xs_eq [28] h h' → Q (some (xI (xf_fr m md w (m (18 + i))))) h') : xq_met lev y_K_spreadFar [xR 1, xI kd, xI i] 81 h Q := by
  refine en_K_spreadFar (by omega) (fun K hK => ?_)
  have V8 := hV.2.2.2.2.2.2.2.1
  have V1 := hV.1
  have w1 := (hV.2.1 i hi.1 hi.2).1
  have b1 := xf_szb hw
  have b2 := xf_szb w1
  have est := B.st
  have far : (¬ (kd = 5 ∧ xf_beg w (m (18 + i)))) → K 9 [some (xR 1), some (xI kd), some (xI i), none] [] 81 h := by
    intro hno
    have call : ∀ nr : Int, nr = (if kd = 1 ∨ kd = 4 then min 4 (xf_stp m) else xf_stp m) → K 26 [some (xR 1), some (xI kd), some (xI i), some (xI (h 17 1))] [xI nr, xR 1] 81 h := by
      intro nr en
      refine xq_go hK [] 60 ?_
      refine ⟨lev - 1, by omega, c_K_leastSum (n := (xf_sz w).toNat) (g := (xf_sz (m (18 + i))).toNat) (by omega) (by omega) (by omega) (by rw [en]; split <;> omega) (by have := hS.1; omega) (by omega) (by have := B.sz i hi.1 hi.2; omega) (by omega) (fun k hk => ?_) (fun j hj => ?_) (fun h' hs => ?_)⟩
      · rw [hS.2 k (by omega)]
        exact xf_lt_bd hw (by omega) hk
      · rw [B.lt i hi.1 hi.2 j (by omega)]
        exact xf_lt_bd w1 (by omega) hj
      · have q := hQ h' hs
        have e : xf_fr m md w (m (18 + i)) = xf_D (h 17 1) (xf_sw nr (h 17 1)) (fun k => h 27 k) (fun j => h 8 (i * 5 + j)) (xf_sz w).toNat (xf_sz (m (18 + i))).toNat := by
          unfold xf_fr
          rw [← hk, if_neg hno, ← en, est]
          unfold xf_far
          refine xf_D_congr _ _ (fun k hk => ?_) (fun j hj => ?_)
          · rw [hS.2 k (by omega)]
            rfl
          · rw [B.lt i hi.1 hi.2 j (by omega)]
            rfl
        rw [e] at q
        exact q
    refine xq_go hK [21, 26] 60 ?_
    have one : (kd = 1 ∨ kd = 4) → K 21 [some (xR 1), some (xI kd), some (xI i), some (xI (h 17 1))] [xR 1] 81 h := by
      intro hk1
      refine xq_go hK [26] 60 ?_
      refine ⟨lev - 1, by omega, c_JM_min (by omega) ?_⟩
      refine call _ ?_
      rw [if_pos hk1, est]
    refine And.intro (fun c => one (Or.inl c)) (fun c => ?_)
    refine And.intro (fun c2 => call _ (by rw [if_neg (fun z => z.elim c c2), est])) (fun c2 => one (Or.inr c2))
  refine xq_go hK [9] 60 ?_
  refine And.intro (fun c => far (fun z => c z.1)) (fun c => ?_)
  refine ⟨lev - 1, by omega, c_K_isBeginning (by omega) hV B hw hS hi (fun hb => ?_) (fun hb => ?_)⟩
  · refine And.intro (fun z => absurd z (by decide)) (fun _ => ?_)
    have q := hQ h xs_rf
    unfold xf_fr at q
    rw [if_pos ⟨by omega, hb⟩] at q
    exact q
  · refine And.intro (fun _ => far (fun z => hb z.2)) (fun z => absurd rfl z)
set_option maxHeartbeats 2000000 in
theorem c_K_spreadCost {lev : Nat} {h : xq_H} {Q : Option xq_V → xq_H → Prop} {m : Int → Int} {P : List xf_Cl} {w i md : Int} (hl : 4 ≤ lev) (hV : xf_VM m) (B : xr_base h m P) (C : xr_crs h m) (hw : xf_wd w) (hS : xr_spr h w) (hi : 0 ≤ i ∧ i < m 11) (hmd : 0 ≤ md ∧ md < m 10)
    (hQ : ∀ h', xs_eq [28, 29] h h' → Q (some (xI (xf_co m md w i (xf_sum (xf_fact m md (xf_sz w) i) P)))) h') : xq_met lev y_K_spreadCost [xR 1, xI md, xI i] 81 h Q := by
  refine en_K_spreadCost (by omega) (fun K hK => ?_)
  have hV0 := hV
  obtain ⟨V1, V2, V3, V4, V5, V6, V7, V8, V9⟩ := hV
  have w1 := V2 i hi.1 hi.2
  have w2 := V4 md hmd.1 hmd.2
  have hfb := xf_fr_bd (md := md) hw w1.1 V8
  have hlb := xf_last_bd V1.1
  have hxb := xf_sum_b (m := m) ⟨B.po, B.pt⟩ (xf_fact m md (xf_sz w) i)
  have ekd := B.kd md hmd.1 hmd.2
  have els := B.ls
  have ecs := B.cs
  unfold xf_co at hQ
  obtain ⟨kd, hkd⟩ : ∃ kd, kd = m (34 + md) := ⟨_, rfl⟩
  rw [← hkd] at hQ ekd
  refine xq_go hK [41, 64] 60 ?_
  refine ⟨lev - 1, by omega, c_C_has (by omega) (fun _ => ?_) (fun z => absurd (by omega) z)⟩
  refine And.intro (fun z => absurd z (by decide)) (fun _ => ?_)
  refine ⟨lev - 1, by omega, c_W_has (by omega) (fun _ => ?_) (fun z => absurd (by omega) z)⟩
  refine And.intro (fun _ => ?_) (fun z => absurd z (by decide))
  refine And.intro (by omega) ?_
  rw [ekd]
  refine ⟨lev - 1, by omega, c_K_spreadFar (by omega) hV0 B hw hS hi hkd (fun h1 hs1 => ?_)⟩
  have B1 := xr_base_fr hs1 (by decide) B
  have C1 := xr_crs_fr (hs1 26 (by decide)) (by rw [hs1 1 (by decide)]) (by rw [hs1 1 (by decide)]) C
  have S1 : xr_spr h1 w := by unfold xr_spr; rw [hs1 1 (by decide), hs1 27 (by decide)]; exact hS
  refine ⟨lev - 1, by omega, c_K_factsOf (md := md) (by omega) hV0 B1 C1 S1 hi hkd (fun h2 hs2 hf => ?_)⟩
  have B2 := xr_base_fr hs2 (by decide) B1
  have C2 := xr_crs_fr (hs2 26 (by decide)) (by rw [hs2 1 (by decide)]) (by rw [hs2 1 (by decide)]) C1
  have hs : xs_eq [28, 29] h h2 := xs_tr hs1 hs2 (by decide) (by decide)
  have q := hQ h2 hs
  refine ⟨lev - 1, by omega, c_P_extra (by omega) B2.po B2.pc B2.pt B2.pl B2.cl ?_⟩
  rw [xf_sum_congr hf P B2.po]
  generalize xf_fr m md w (m (18 + i)) = fr at hfb q ⊢
  generalize xf_sum (xf_fact m md (xf_sz w) i) P = ex at hxb q ⊢
  refine And.intro (by omega) ?_
  have ela := C2.la
  have ety := C2.ty
  have els2 := B2.ls
  -- behind what comes behind
  have tail : ∀ s : Int, s = fr + ex - (if (kd = 2 ∨ kd = 5) ∧ xf_last m ≠ -1 ∧ xq_and (xq_shr (m (26 + xf_last m)) i) 1 = 1 then 5 else 0) → K 64 [some (xR 1), some (xI md), some (xI i), some (xI kd), some (xI s)] [] 81 h2 := by
    intro s es
    rw [← es] at q
    have hs5 : -1000 ≤ s ∧ s ≤ 2000 := by rw [es]; split <;> omega
    have last : ∀ r : Int, r = s + (if kd = 6 then m (44 + 4 * md + m 1 % 4) else 0) → K 83 [some (xR 1), some (xI md), some (xI i), some (xI kd), some (xI r)] [] 81 h2 := by
      intro r er
      rw [← er] at q
      refine xq_go hK [] 60 ?_
      refine ⟨lev - 1, by omega, c_JM_max (by omega) ?_⟩
      exact q
    refine xq_go hK [83] 60 ?_
    refine And.intro (fun c => last _ (by rw [if_neg c]; omega)) (fun c => ?_)
    refine And.intro (by omega) ?_
    refine ⟨lev - 1, by omega, c_JM_floorMod (by omega) (by omega) (by omega) ?_⟩
    rw [ety]
    refine And.intro (by omega) ?_
    have er := B2.rw md hmd.1 hmd.2 (m 1 % 4) (by omega) (by omega)
    have hr := w2.2.2 (m 1 % 4) (by omega) (by omega)
    refine And.intro (by omega) ?_
    refine And.intro (by omega) ?_
    refine last _ ?_
    rw [er, if_pos c]
  have bit : (kd = 2 ∨ kd = 5) → K 41 [some (xR 1), some (xI md), some (xI i), some (xI kd), some (xI (fr + ex))] [] 81 h2 := by
    intro hk
    refine xq_go hK [64] 60 ?_
    refine ⟨lev - 1, by omega, c_W_has (by omega) (fun c => ?_) (fun c => ?_)⟩
    · refine And.intro (fun z => absurd z (by decide)) (fun _ => ?_)
      refine And.intro (by omega) ?_
      rw [ela] at c ⊢
      rw [B2.nx (xf_last m) (by omega) (by omega)]
      have hb01 : 0 ≤ xq_and (xq_shr (m (26 + xf_last m)) i) 1 ∧ xq_and (xq_shr (m (26 + xf_last m)) i) 1 ≤ 1 := by
        have z1 := (V2 (xf_last m) (by omega) (by omega)).2.2
        exact xb_bit z1 (by omega)
      refine And.intro (by omega) ?_
      refine And.intro (by omega) ?_
      refine tail _ ?_
      by_cases c2 : xq_and (xq_shr (m (26 + xf_last m)) i) 1 = 1
      · rw [if_pos ⟨hk, by omega, c2⟩, c2]
        rfl
      · rw [if_neg (fun z => c2 z.2.2), show xq_and (xq_shr (m (26 + xf_last m)) i) 1 = 0 by omega]
        rfl
    · refine And.intro (fun _ => tail _ ?_) (fun z => absurd rfl z)
      rw [ela] at c
      rw [if_neg (fun z => c ⟨by omega, by omega⟩)]
      omega
  refine And.intro (fun c => bit (Or.inl c)) (fun c => ?_)
  refine And.intro (fun c2 => tail _ (by rw [if_neg (fun z => z.1.elim c c2)]; omega)) (fun c2 => bit (Or.inr c2))
/-- the maker's scratch leaves its course as it is -/
def xr_kp (h h' : xq_H) : Prop := xs_eq [1, 27, 28, 29] h h' ∧ ∀ k : Int, k ≠ 5 → h' 1 k = h 1 k
theorem xr_kp_rf {h : xq_H} : xr_kp h h := ⟨xs_rf, fun _ _ => rfl⟩
theorem xr_kp_tr {h h1 h2 : xq_H} (a : xr_kp h h1) (b : xr_kp h1 h2) : xr_kp h h2 := ⟨xs_tr a.1 b.1 (by decide) (by decide), fun k hk => (b.2 k hk).trans (a.2 k hk)⟩
theorem xr_kp_B {h h' : xq_H} {m : Int → Int} {P : List xf_Cl} (a : xr_kp h h') (B : xr_base h m P) : xr_base h' m P := xr_base_fr a.1 (by decide) B
theorem xr_kp_C {h h' : xq_H} {m : Int → Int} (a : xr_kp h h') (C : xr_crs h m) : xr_crs h' m := xr_crs_fr (a.1 26 (by decide)) (a.2 2 (by decide)) (a.2 3 (by decide)) C
theorem xr_kp_2 {h h' : xq_H} (a : xs_eq [28, 29] h h') : xr_kp h h' := ⟨xs_tr xs_rf a (X := []) (by decide) (by decide), fun k _ => by rw [a 1 (by decide)]⟩
theorem xr_lft {h : xq_H} {m : Int → Int} {P : List xf_Cl} (B : xr_base h m P) {w : Int} : (∃ k : Nat, (k : Int) < h 13 5 ∧ h 16 k = w) ↔ xf_lft m w := by
  unfold xf_lft
  rw [B.ll]
  constructor
  · rintro ⟨k, h1, h2⟩
    exact ⟨k, h1, by rw [← B.lf k (by omega) h1]; exact h2⟩
  · rintro ⟨k, h1, h2⟩
    exact ⟨k, h1, by rw [B.lf k (by omega) h1]; exact h2⟩
set_option maxHeartbeats 1000000 in
theorem c_K_madeOf {lev : Nat} {h : xq_H} {Q : Option xq_V → xq_H → Prop} {m : Int → Int} {P : List xf_Cl} {w md : Int} (hl : 5 ≤ lev) (hV : xf_VM m) (B : xr_base h m P) (C : xr_crs h m) (hw : xf_wd w) (hmd : 0 ≤ md ∧ md < m 10)
    (hQ : ∀ h', xr_kp h h' → Q (some (xI (xf_made m P md w))) h') : xq_met lev y_K_madeOf [xR 1, xI md, xI w] 81 h Q := by
  refine en_K_madeOf (by omega) (fun K hK => ?_)
  have hV0 := hV
  obtain ⟨V1, V2, V3, V4, V5, V6, V7, V8, V9⟩ := hV
  have ekd := B.kd md hmd.1 hmd.2
  have ecs := B.cs
  obtain ⟨kd, hkd⟩ : ∃ kd, kd = m (34 + md) := ⟨_, rfl⟩
  have hmade : xf_made m P md w = @ite _ ((kd = 3 ∨ kd = 6) ∧ xf_lft m w) (Classical.propDecidable _) w
    (if (xf_mn (xf_pr m P md w) (10 * xf_lim m) (m 11).toNat).2 = -1 then w else m (18 + (xf_mn (xf_pr m P md w) (10 * xf_lim m) (m 11).toNat).2)) := by rw [hkd]; rfl
  rw [hmade] at hQ
  rw [← hkd] at ekd
  have hpb : ∀ i : Nat, (i : Int) < m 11 → -99 ≤ xf_pr m P md w i ∧ xf_pr m P md w i ≤ 20000 := fun i hi => by
    have h1 := xf_co_bd (ex := xf_sum (xf_fact m md (xf_sz w) i) P) hV0 hmd hw (i := (i : Int)) (by omega) (xf_sum_b (m := m) ⟨B.po, B.pt⟩ _)
    have h2 := (V2 i (by omega) hi).2.1
    unfold xf_pr
    omega
  have search : (¬ ((kd = 3 ∨ kd = 6) ∧ xf_lft m w)) → K 18 [some (xR 1), some (xI md), some (xI w), some (xI kd), none, none, none, none] [] 81 h := by
    intro hno
    rw [if_neg hno] at hQ
    have loop : ∀ (d i : Nat) (iI b l : Int) (x7 : Option xq_V) (h' : xq_H), (i : Int) + d = m 11 → iI = i → b = (if (xf_mn (xf_pr m P md w) (10 * xf_lim m) i).2 = -1 then w else m (18 + (xf_mn (xf_pr m P md w) (10 * xf_lim m) i).2)) → l = (xf_mn (xf_pr m P md w) (10 * xf_lim m) i).1 → (x7 = none ∨ ∃ z, x7 = some (xI z)) → xr_kp h h' → xr_spr h' w → K 32 [some (xR 1), some (xI md), some (xI w), some (xI kd), some (xI b), some (xI l), some (xI iI), x7] [] 81 h' := by
      intro d
      induction d with
      | zero =>
        intro i iI b l x7 h' hd ei eb el hx hk hS
        have B1 := xr_kp_B hk B
        have els := B1.ls
        rw [show (m 11).toNat = i by omega, ← eb] at hQ
        refine xq_go hK [32] 60 ?_
        refine And.intro (fun c => ?_) (fun c => absurd c (by omega))
        exact hQ h' hk
      | succ d ih =>
        intro i iI b l x7 h' hd ei eb el hx hk hS
        have B1 := xr_kp_B hk B
        have C1 := xr_kp_C hk C
        have els := B1.ls
        have hp1 := hpb i (by omega)
        have w1 := V2 i (by omega) (by omega)
        have hxb := xf_sum_b (m := m) ⟨B.po, B.pt⟩ (xf_fact m md (xf_sz w) i)
        have hcb := xf_co_bd hV0 hmd hw (i := (i : Int)) (by omega) hxb
        have hbd := xf_mn_bd (xf_pr m P md w) (10 * xf_lim m) i
        refine xq_go hK [32] 60 ?_
        refine And.intro (fun c => absurd c (by omega)) (fun _ => ?_)
        refine ⟨lev - 1, by omega, c_K_spreadCost (by omega) hV0 B1 C1 hw hS (by omega) hmd (fun h2 hs2 => ?_)⟩
        have hk2 := xr_kp_tr hk (xr_kp_2 hs2)
        have B2 := xr_kp_B hk2 B
        have C2 := xr_kp_C hk2 C
        have S2 : xr_spr h2 w := by unfold xr_spr; rw [hs2 1 (by decide), hs2 27 (by decide)]; exact hS
        have ewt := C2.wt i (by omega) (by omega)
        have ewd := B2.wd i (by omega) (by omega)
        have epr : 10 * xf_co m md w i (xf_sum (xf_fact m md (xf_sz w) i) P) - m (2 + i) = xf_pr m P md w i := rfl
        rw [ei]
        refine And.intro (by omega) ?_
        refine And.intro (by omega) ?_
        rw [ewt]
        refine And.intro (by omega) ?_
        rw [epr]
        have nx : xf_mn (xf_pr m P md w) (10 * xf_lim m) (i + 1) = if xf_pr m P md w i < l then (xf_pr m P md w i, (i : Int)) else xf_mn (xf_pr m P md w) (10 * xf_lim m) i := by rw [xf_mn, ← el]
        refine And.intro (fun c => ?_) (fun c => ?_)
        · refine And.intro (by omega) ?_
          rw [if_neg c] at nx
          exact ih (i + 1) _ _ _ _ _ (by omega) (by omega) (by rw [nx]; exact eb) (by rw [nx]; exact el) (Or.inr ⟨_, rfl⟩) hk2 S2
        · refine And.intro (by omega) ?_
          rw [ewd]
          refine And.intro (by omega) ?_
          rw [if_pos c] at nx
          exact ih (i + 1) _ _ _ _ _ (by omega) (by omega) (by rw [nx]; dsimp only; rw [if_neg (by omega)]) (by rw [nx]) (Or.inr ⟨_, rfl⟩) hk2 S2
    refine xq_go hK [32] 60 ?_
    refine ⟨lev - 1, by omega, c_K_spread (n := (xf_sz w).toNat) (by omega) hw (by have := xf_szb hw; omega) (fun h1 hs1 hf h5 hlt => ?_)⟩
    have hk1 : xr_kp h h1 := ⟨xs_tr xs_rf hs1 (X := []) (by decide) (by decide), hf⟩
    have B1 := xr_kp_B hk1 B
    have eli := B1.li
    have bw := xf_szb hw
    refine And.intro (by omega) ?_
    rw [eli]
    exact loop (m 11).toNat 0 _ _ _ _ h1 (by omega) rfl rfl rfl (Or.inl rfl) hk1 ⟨by omega, fun k hk => hlt k (by omega)⟩
  have asks : (kd = 3 ∨ kd = 6) → K 10 [some (xR 1), some (xI md), some (xI w), some (xI kd), none, none, none, none] [] 81 h := by
    intro hk
    refine xq_go hK [18] 60 ?_
    have ell := B.ll
    refine ⟨lev - 1, by omega, c_T_isLeft (by omega) (by omega) (fun c => ?_) (fun c => ?_)⟩
    · refine And.intro (fun c2 => absurd c2 (by decide)) (fun _ => ?_)
      have q := hQ h xr_kp_rf
      rw [if_pos ⟨hk, (xr_lft B).1 c⟩] at q
      exact q
    · refine And.intro (fun _ => search (fun z => c ((xr_lft B).2 z.2))) (fun c2 => absurd rfl c2)
  refine xq_go hK [10, 18] 60 ?_
  refine ⟨lev - 1, by omega, c_K_kindOf (by omega) (by omega) (by omega) ?_⟩
  rw [ekd]
  refine And.intro (fun c => asks (Or.inl c)) (fun c => ?_)
  refine And.intro (fun c2 => search (fun z => z.1.elim c c2)) (fun c2 => asks (Or.inr c2))
theorem c_K_costOf {lev : Nat} {h : xq_H} {Q : Option xq_V → xq_H → Prop} {m : Int → Int} {P : List xf_Cl} {w md i : Int} (hl : 5 ≤ lev) (hV : xf_VM m) (B : xr_base h m P) (C : xr_crs h m) (hw : xf_wd w) (hmd : 0 ≤ md ∧ md < m 10) (hi : 0 ≤ i ∧ i < m 11)
    (hQ : ∀ h', xr_kp h h' → Q (some (xI (xf_co m md w i (xf_sum (xf_fact m md (xf_sz w) i) P)))) h') : xq_met lev y_K_costOf [xR 1, xI md, xI w, xI i] 81 h Q := by
  refine en_K_costOf (by omega) (fun K hK => ?_)
  have bw := xf_szb hw
  refine xq_go hK [] 60 ?_
  refine ⟨lev - 1, by omega, c_K_spread (n := (xf_sz w).toNat) (by omega) hw (by omega) (fun h1 hs1 hf h5 hlt => ?_)⟩
  have hk1 : xr_kp h h1 := ⟨xs_tr xs_rf hs1 (X := []) (by decide) (by decide), hf⟩
  refine ⟨lev - 1, by omega, c_K_spreadCost (by omega) hV (xr_kp_B hk1 B) (xr_kp_C hk1 C) hw ⟨by omega, fun k hk => hlt k (by omega)⟩ hi hmd (fun h2 hs2 => ?_)⟩
  exact hQ h2 (xr_kp_tr hk1 (xr_kp_2 hs2))
theorem c_K_priceOf {lev : Nat} {h : xq_H} {Q : Option xq_V → xq_H → Prop} {m : Int → Int} {P : List xf_Cl} {w md i : Int} (hl : 6 ≤ lev) (hV : xf_VM m) (B : xr_base h m P) (C : xr_crs h m) (hw : xf_wd w) (hmd : 0 ≤ md ∧ md < m 10) (hi : 0 ≤ i ∧ i < m 11)
    (hQ : ∀ h', xr_kp h h' → Q (some (xI (10 * xf_co m md w i (xf_sum (xf_fact m md (xf_sz w) i) P) - m (2 + i)))) h') : xq_met lev y_K_priceOf [xR 1, xI md, xI w, xI i] 81 h Q := by
  refine en_K_priceOf (by omega) (fun K hK => ?_)
  have els := B.ls
  have V1 := hV.1
  have w1 := hV.2.1 i hi.1 hi.2
  have hxb := xf_sum_b (m := m) ⟨B.po, B.pt⟩ (xf_fact m md (xf_sz w) i)
  have hcb := xf_co_bd hV hmd hw hi hxb
  refine xq_go hK [] 60 ?_
  refine ⟨lev - 1, by omega, c_W_has (by omega) (fun _ => ?_) (fun z => absurd (by omega) z)⟩
  refine And.intro (fun z => absurd z (by decide)) (fun _ => ?_)
  refine ⟨lev - 1, by omega, c_K_costOf (by omega) hV B C hw hmd hi (fun h1 hk1 => ?_)⟩
  have ewt := (xr_kp_C hk1 C).wt i hi.1 hi.2
  refine And.intro (by omega) ?_
  refine And.intro (by omega) ?_
  rw [ewt]
  refine And.intro (by omega) ?_
  exact hQ h1 hk1
theorem c_K_plainFar {lev : Nat} {h : xq_H} {Q : Option xq_V → xq_H → Prop} {m : Int → Int} {P : List xf_Cl} {w i : Int} (hl : 3 ≤ lev) (hV : xf_VM m) (B : xr_base h m P) (hw : xf_wd w) (hi : 0 ≤ i ∧ i < m 11)
    (hQ : ∀ h', xr_kp h h' → Q (some (xI (xf_far (xf_stp m) (xf_stp m) w (m (18 + i))))) h') : xq_met lev y_K_plainFar [xR 1, xI w, xI i] 81 h Q := by
  refine en_K_plainFar (by omega) (fun K hK => ?_)
  have bw := xf_szb hw
  have V1 := hV.1
  have V8 := hV.2.2.2.2.2.2.2.1
  have w1 := (hV.2.1 i hi.1 hi.2).1
  have b2 := xf_szb w1
  refine xq_go hK [] 60 ?_
  refine ⟨lev - 1, by omega, c_K_spread (n := (xf_sz w).toNat) (by omega) hw (by omega) (fun h1 hs1 hf h5 hlt => ?_)⟩
  have hk1 : xr_kp h h1 := ⟨xs_tr xs_rf hs1 (X := []) (by decide) (by decide), hf⟩
  have B1 := xr_kp_B hk1 B
  have est := B1.st
  have esz := B1.sz i hi.1 hi.2
  refine ⟨lev - 1, by omega, c_K_leastSum (n := (xf_sz w).toNat) (g := (xf_sz (m (18 + i))).toNat) (by omega) (by omega) (by omega) (by omega) h5 (by omega) (by omega) (by omega) (fun k hk => ?_) (fun j hj => ?_) (fun h' hs => ?_)⟩
  · rw [hlt k hk]
    exact xf_lt_bd hw (by omega) hk
  · rw [B1.lt i hi.1 hi.2 j (by omega)]
    exact xf_lt_bd w1 (by omega) hj
  · have q := hQ h' (xr_kp_tr hk1 ⟨xs_tr xs_rf hs (X := []) (by decide) (by decide), fun k _ => by rw [hs 1 (by decide)]⟩)
    have e : xf_far (xf_stp m) (xf_stp m) w (m (18 + i)) = xf_D (h1 17 1) (xf_sw (h1 17 1) (h1 17 1)) (fun k => h1 27 k) (fun j => h1 8 (i * 5 + j)) (xf_sz w).toNat (xf_sz (m (18 + i))).toNat := by
      rw [est]
      unfold xf_far
      refine xf_D_congr _ _ (fun k hk => ?_) (fun j hj => ?_)
      · rw [hlt k hk]
        rfl
      · rw [B1.lt i hi.1 hi.2 j (by omega)]
        rfl
    rw [e] at q
    exact q
end

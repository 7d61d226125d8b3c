theorem ok_JM_min : xq_okM prog_15_method_69_code "java/lang/Math" false (Option.some Jvm.ClassFile.FieldType.int) rw_JM_min = true := by decide +kernel
theorem ok_JM_max : xq_okM prog_15_method_65_code "java/lang/Math" false (Option.some Jvm.ClassFile.FieldType.int) rw_JM_max = true := by decide +kernel
theorem ok_JM_floorMod : xq_okM prog_15_method_50_code "java/lang/Math" false (Option.some Jvm.ClassFile.FieldType.int) rw_JM_floorMod = true := by decide +kernel
theorem ok_JI_bitCount : xq_okM prog_14_method_49_code "java/lang/Integer" false (Option.some Jvm.ClassFile.FieldType.int) rw_JI_bitCount = true := by decide +kernel
theorem ok_JS_length : xq_okM prog_16_method_54_code "java/lang/String" false (Option.some Jvm.ClassFile.FieldType.int) rw_JS_length = true := by decide +kernel
theorem ok_JS_coder : xq_okM prog_16_method_152_code "java/lang/String" false (Option.some Jvm.ClassFile.FieldType.byte) rw_JS_coder = true := by decide +kernel
theorem ok_JS_isLatin1 : xq_okM prog_16_method_154_code "java/lang/String" false (Option.some Jvm.ClassFile.FieldType.boolean) rw_JS_isLatin1 = true := by decide +kernel
theorem ok_JS_charAt : xq_okM prog_16_method_56_code "java/lang/String" false (Option.some Jvm.ClassFile.FieldType.char) rw_JS_charAt = true := by decide +kernel
theorem ok_JS_checkIndex : xq_okM prog_16_method_155_code "java/lang/String" false (Option.none : Option Jvm.ClassFile.FieldType) rw_JS_checkIndex = true := by decide +kernel
theorem ok_JS_indexOf : xq_okM prog_16_method_79_code "java/lang/String" false (Option.some Jvm.ClassFile.FieldType.int) rw_JS_indexOf = true := by decide +kernel
theorem ok_JS_indexOf2 : xq_okM prog_16_method_80_code "java/lang/String" false (Option.some Jvm.ClassFile.FieldType.int) rw_JS_indexOf2 = true := by decide +kernel
theorem ok_JL_charAt : xq_okM prog_17_method_2_code "java/lang/StringLatin1" false (Option.some Jvm.ClassFile.FieldType.char) rw_JL_charAt = true := by decide +kernel
theorem ok_JL_canEncode : xq_okM prog_17_method_4_code "java/lang/StringLatin1" false (Option.some Jvm.ClassFile.FieldType.boolean) rw_JL_canEncode = true := by decide +kernel
theorem ok_JL_indexOf : xq_okM prog_17_method_22_code "java/lang/StringLatin1" false (Option.some Jvm.ClassFile.FieldType.int) rw_JL_indexOf = true := by decide +kernel
theorem ok_JL_indexOfChar : xq_okM prog_17_method_23_code "java/lang/StringLatin1" false (Option.some Jvm.ClassFile.FieldType.int) rw_JL_indexOfChar = true := by decide +kernel
theorem ok_JP_checkIndex : xq_okM prog_19_method_11_code "jdk/internal/util/Preconditions" false (Option.some Jvm.ClassFile.FieldType.int) rw_JP_checkIndex = true := by decide +kernel
theorem ok_A_init : xq_okM prog_2_method_1_code "PutBack$Acts" true (Option.none : Option Jvm.ClassFile.FieldType) rw_A_init = true := by decide +kernel
theorem ok_A_forget : xq_okM prog_2_method_2_code "PutBack$Acts" false (Option.none : Option Jvm.ClassFile.FieldType) rw_A_forget = true := by decide +kernel
theorem ok_A_start : xq_okM prog_2_method_3_code "PutBack$Acts" false (Option.some Jvm.ClassFile.FieldType.int) rw_A_start = true := by decide +kernel
theorem ok_A_run : xq_okM prog_2_method_4_code "PutBack$Acts" false (Option.some Jvm.ClassFile.FieldType.int) rw_A_run = true := by decide +kernel
theorem ok_A_holderOf : xq_okM prog_2_method_5_code "PutBack$Acts" false (Option.some Jvm.ClassFile.FieldType.int) rw_A_holderOf = true := by decide +kernel
theorem ok_A_begin : xq_okM prog_2_method_6_code "PutBack$Acts" false (Option.none : Option Jvm.ClassFile.FieldType) rw_A_begin = true := by decide +kernel
theorem ok_B_init : xq_okM prog_3_method_1_code "PutBack$Book" true (Option.none : Option Jvm.ClassFile.FieldType) rw_B_init = true := by decide +kernel
theorem ok_B_add : xq_okM prog_3_method_2_code "PutBack$Book" false (Option.some Jvm.ClassFile.FieldType.boolean) rw_B_add = true := by decide +kernel
theorem ok_B_copy : xq_okM prog_3_method_3_code "PutBack$Book" false (Option.none : Option Jvm.ClassFile.FieldType) rw_B_copy = true := by decide +kernel
theorem ok_C_init : xq_okM prog_4_method_1_code "PutBack$Crew" true (Option.none : Option Jvm.ClassFile.FieldType) rw_C_init = true := by decide +kernel
theorem ok_C_has : xq_okM prog_4_method_2_code "PutBack$Crew" false (Option.some Jvm.ClassFile.FieldType.boolean) rw_C_has = true := by decide +kernel
theorem ok_C_add : xq_okM prog_4_method_3_code "PutBack$Crew" false (Option.some Jvm.ClassFile.FieldType.boolean) rw_C_add = true := by decide +kernel
theorem ok_C_copy : xq_okM prog_4_method_4_code "PutBack$Crew" false (Option.none : Option Jvm.ClassFile.FieldType) rw_C_copy = true := by decide +kernel
theorem ok_K_init : xq_okM prog_5_method_1_code "PutBack$Maker" true (Option.none : Option Jvm.ClassFile.FieldType) rw_K_init = true := by decide +kernel
theorem ok_K_settle : xq_okM prog_5_method_2_code "PutBack$Maker" false (Option.none : Option Jvm.ClassFile.FieldType) rw_K_settle = true := by decide +kernel
theorem ok_K_typeOnce : xq_okM prog_5_method_3_code "PutBack$Maker" false (Option.some Jvm.ClassFile.FieldType.int) rw_K_typeOnce = true := by decide +kernel
theorem ok_K_madeOf : xq_okM prog_5_method_4_code "PutBack$Maker" false (Option.some Jvm.ClassFile.FieldType.int) rw_K_madeOf = true := by decide +kernel
theorem ok_K_costOf : xq_okM prog_5_method_5_code "PutBack$Maker" false (Option.some Jvm.ClassFile.FieldType.int) rw_K_costOf = true := by decide +kernel
theorem ok_K_priceOf : xq_okM prog_5_method_6_code "PutBack$Maker" false (Option.some Jvm.ClassFile.FieldType.int) rw_K_priceOf = true := by decide +kernel
theorem ok_K_plainFar : xq_okM prog_5_method_7_code "PutBack$Maker" false (Option.some Jvm.ClassFile.FieldType.int) rw_K_plainFar = true := by decide +kernel
theorem ok_K_slipsInto : xq_okM prog_5_method_8_code "PutBack$Maker" false (Option.some Jvm.ClassFile.FieldType.int) rw_K_slipsInto = true := by decide +kernel
theorem ok_K_kindOf : xq_okM prog_5_method_9_code "PutBack$Maker" false (Option.some Jvm.ClassFile.FieldType.int) rw_K_kindOf = true := by decide +kernel
theorem ok_K_spread : xq_okM prog_5_method_10_code "PutBack$Maker" false (Option.none : Option Jvm.ClassFile.FieldType) rw_K_spread = true := by decide +kernel
theorem ok_K_spreadCost : xq_okM prog_5_method_11_code "PutBack$Maker" false (Option.some Jvm.ClassFile.FieldType.int) rw_K_spreadCost = true := by decide +kernel
theorem ok_K_factsOf : xq_okM prog_5_method_12_code "PutBack$Maker" false (Option.some (Jvm.ClassFile.FieldType.array Jvm.ClassFile.FieldType.int)) rw_K_factsOf = true := by decide +kernel
theorem ok_K_spreadFar : xq_okM prog_5_method_13_code "PutBack$Maker" false (Option.some Jvm.ClassFile.FieldType.int) rw_K_spreadFar = true := by decide +kernel
theorem ok_K_isBeginning : xq_okM prog_5_method_14_code "PutBack$Maker" false (Option.some Jvm.ClassFile.FieldType.boolean) rw_K_isBeginning = true := by decide +kernel
theorem ok_K_leastSum : xq_okM prog_5_method_15_code "PutBack$Maker" false (Option.some Jvm.ClassFile.FieldType.int) rw_K_leastSum = true := by decide +kernel
theorem ok_P_init : xq_okM prog_6_method_1_code "PutBack$Phone" true (Option.none : Option Jvm.ClassFile.FieldType) rw_P_init = true := by decide +kernel
theorem ok_P_clear : xq_okM prog_6_method_2_code "PutBack$Phone" false (Option.none : Option Jvm.ClassFile.FieldType) rw_P_clear = true := by decide +kernel
theorem ok_P_put : xq_okM prog_6_method_3_code "PutBack$Phone" false (Option.none : Option Jvm.ClassFile.FieldType) rw_P_put = true := by decide +kernel
theorem ok_P_close : xq_okM prog_6_method_4_code "PutBack$Phone" false (Option.none : Option Jvm.ClassFile.FieldType) rw_P_close = true := by decide +kernel
theorem ok_P_extra : xq_okM prog_6_method_5_code "PutBack$Phone" false (Option.some Jvm.ClassFile.FieldType.int) rw_P_extra = true := by decide +kernel
theorem ok_P_holds : xq_okM prog_6_method_6_code "PutBack$Phone" false (Option.some Jvm.ClassFile.FieldType.boolean) rw_P_holds = true := by decide +kernel
theorem ok_P_passes : xq_okM prog_6_method_7_code "PutBack$Phone" false (Option.some Jvm.ClassFile.FieldType.boolean) rw_P_passes = true := by decide +kernel
theorem ok_P_copy : xq_okM prog_6_method_8_code "PutBack$Phone" false (Option.none : Option Jvm.ClassFile.FieldType) rw_P_copy = true := by decide +kernel
theorem ok_R_init : xq_okM prog_7_method_1_code "PutBack$Reader" true (Option.none : Option Jvm.ClassFile.FieldType) rw_R_init = true := by decide +kernel
theorem ok_R_faultOf : xq_okM prog_7_method_2_code "PutBack$Reader" false (Option.some Jvm.ClassFile.FieldType.int) rw_R_faultOf = true := by decide +kernel
theorem ok_R_peek : xq_okM prog_7_method_3_code "PutBack$Reader" false (Option.some Jvm.ClassFile.FieldType.int) rw_R_peek = true := by decide +kernel
theorem ok_R_readSign : xq_okM prog_7_method_4_code "PutBack$Reader" false (Option.some Jvm.ClassFile.FieldType.boolean) rw_R_readSign = true := by decide +kernel
theorem ok_R_readName : xq_okM prog_7_method_5_code "PutBack$Reader" false (Option.some Jvm.ClassFile.FieldType.boolean) rw_R_readName = true := by decide +kernel
theorem ok_R_readClause : xq_okM prog_7_method_6_code "PutBack$Reader" false (Option.some Jvm.ClassFile.FieldType.boolean) rw_R_readClause = true := by decide +kernel
theorem ok_R_nameBy : xq_okM prog_7_method_7_code "PutBack$Reader" false (Option.some (Jvm.ClassFile.FieldType.object "java/lang/String")) rw_R_nameBy = true := by decide +kernel
theorem ok_R_readNumber : xq_okM prog_7_method_8_code "PutBack$Reader" false (Option.some Jvm.ClassFile.FieldType.int) rw_R_readNumber = true := by decide +kernel
theorem ok_R_readEither : xq_okM prog_7_method_9_code "PutBack$Reader" false (Option.some Jvm.ClassFile.FieldType.boolean) rw_R_readEither = true := by decide +kernel
theorem ok_R_readFactor : xq_okM prog_7_method_10_code "PutBack$Reader" false (Option.some Jvm.ClassFile.FieldType.boolean) rw_R_readFactor = true := by decide +kernel
theorem ok_R_readTest : xq_okM prog_7_method_11_code "PutBack$Reader" false (Option.some Jvm.ClassFile.FieldType.boolean) rw_R_readTest = true := by decide +kernel
theorem ok_R_readOneOf : xq_okM prog_7_method_12_code "PutBack$Reader" false (Option.some Jvm.ClassFile.FieldType.int) rw_R_readOneOf = true := by decide +kernel
theorem ok_S_init : xq_okM prog_8_method_1_code "PutBack$State" true (Option.none : Option Jvm.ClassFile.FieldType) rw_S_init = true := by decide +kernel
theorem ok_S_copy : xq_okM prog_8_method_2_code "PutBack$State" false (Option.none : Option Jvm.ClassFile.FieldType) rw_S_copy = true := by decide +kernel
theorem ok_T_init : xq_okM prog_9_method_1_code "PutBack$Text" true (Option.none : Option Jvm.ClassFile.FieldType) rw_T_init = true := by decide +kernel
theorem ok_T_add : xq_okM prog_9_method_2_code "PutBack$Text" false (Option.none : Option Jvm.ClassFile.FieldType) rw_T_add = true := by decide +kernel
theorem ok_T_last : xq_okM prog_9_method_3_code "PutBack$Text" false (Option.some Jvm.ClassFile.FieldType.int) rw_T_last = true := by decide +kernel
theorem ok_T_takeBack : xq_okM prog_9_method_4_code "PutBack$Text" false (Option.some Jvm.ClassFile.FieldType.boolean) rw_T_takeBack = true := by decide +kernel
theorem ok_T_isLeft : xq_okM prog_9_method_5_code "PutBack$Text" false (Option.some Jvm.ClassFile.FieldType.boolean) rw_T_isLeft = true := by decide +kernel
theorem ok_T_copy : xq_okM prog_9_method_6_code "PutBack$Text" false (Option.none : Option Jvm.ClassFile.FieldType) rw_T_copy = true := by decide +kernel
theorem ok_W_init : xq_okM prog_10_method_1_code "PutBack$Words" true (Option.none : Option Jvm.ClassFile.FieldType) rw_W_init = true := by decide +kernel
theorem ok_W_has : xq_okM prog_10_method_2_code "PutBack$Words" false (Option.some Jvm.ClassFile.FieldType.boolean) rw_W_has = true := by decide +kernel
theorem ok_W_add : xq_okM prog_10_method_3_code "PutBack$Words" false (Option.some Jvm.ClassFile.FieldType.boolean) rw_W_add = true := by decide +kernel
theorem ok_W_numberOf : xq_okM prog_10_method_4_code "PutBack$Words" false (Option.some Jvm.ClassFile.FieldType.int) rw_W_numberOf = true := by decide +kernel

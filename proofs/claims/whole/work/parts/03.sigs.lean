/-! the methods' numbers -/
abbrev y_JM_min : Nat := 0
abbrev y_JM_max : Nat := 1
abbrev y_JM_floorMod : Nat := 2
abbrev y_JI_bitCount : Nat := 3
abbrev y_JS_length : Nat := 4
abbrev y_JS_coder : Nat := 5
abbrev y_JS_isLatin1 : Nat := 6
abbrev y_JS_charAt : Nat := 7
abbrev y_JS_checkIndex : Nat := 8
abbrev y_JS_indexOf : Nat := 9
abbrev y_JS_indexOf2 : Nat := 10
abbrev y_JL_charAt : Nat := 11
abbrev y_JL_canEncode : Nat := 12
abbrev y_JL_indexOf : Nat := 13
abbrev y_JL_indexOfChar : Nat := 14
abbrev y_JP_checkIndex : Nat := 15
abbrev y_A_init : Nat := 16
abbrev y_A_forget : Nat := 17
abbrev y_A_start : Nat := 18
abbrev y_A_run : Nat := 19
abbrev y_A_holderOf : Nat := 20
abbrev y_A_begin : Nat := 21
abbrev y_B_init : Nat := 22
abbrev y_B_add : Nat := 23
abbrev y_B_copy : Nat := 24
abbrev y_C_init : Nat := 25
abbrev y_C_has : Nat := 26
abbrev y_C_add : Nat := 27
abbrev y_C_copy : Nat := 28
abbrev y_K_init : Nat := 29
abbrev y_K_settle : Nat := 30
abbrev y_K_typeOnce : Nat := 31
abbrev y_K_madeOf : Nat := 32
abbrev y_K_costOf : Nat := 33
abbrev y_K_priceOf : Nat := 34
abbrev y_K_plainFar : Nat := 35
abbrev y_K_slipsInto : Nat := 36
abbrev y_K_kindOf : Nat := 37
abbrev y_K_spread : Nat := 38
abbrev y_K_spreadCost : Nat := 39
abbrev y_K_factsOf : Nat := 40
abbrev y_K_spreadFar : Nat := 41
abbrev y_K_isBeginning : Nat := 42
abbrev y_K_leastSum : Nat := 43
abbrev y_P_init : Nat := 44
abbrev y_P_clear : Nat := 45
abbrev y_P_put : Nat := 46
abbrev y_P_close : Nat := 47
abbrev y_P_extra : Nat := 48
abbrev y_P_holds : Nat := 49
abbrev y_P_passes : Nat := 50
abbrev y_P_copy : Nat := 51
abbrev y_R_init : Nat := 52
abbrev y_R_faultOf : Nat := 53
abbrev y_R_peek : Nat := 54
abbrev y_R_readSign : Nat := 55
abbrev y_R_readName : Nat := 56
abbrev y_R_readClause : Nat := 57
abbrev y_R_nameBy : Nat := 58
abbrev y_R_readNumber : Nat := 59
abbrev y_R_readEither : Nat := 60
abbrev y_R_readFactor : Nat := 61
abbrev y_R_readTest : Nat := 62
abbrev y_R_readOneOf : Nat := 63
abbrev y_S_init : Nat := 64
abbrev y_S_copy : Nat := 65
abbrev y_T_init : Nat := 66
abbrev y_T_add : Nat := 67
abbrev y_T_last : Nat := 68
abbrev y_T_takeBack : Nat := 69
abbrev y_T_isLeft : Nat := 70
abbrev y_T_copy : Nat := 71
abbrev y_W_init : Nat := 72
abbrev y_W_has : Nat := 73
abbrev y_W_add : Nat := 74
abbrev y_W_numberOf : Nat := 75
abbrev y_W_begins : Nat := 76
abbrev y_W_aheadOf : Nat := 77
abbrev y_W_copy : Nat := 78
abbrev y_X_init : Nat := 79
abbrev y_X_feed : Nat := 80
abbrev y_X_telephone : Nat := 81
abbrev y_X_word : Nat := 82
abbrev y_X_listed : Nat := 83
abbrev y_X_weigh : Nat := 84
abbrev y_X_behind : Nat := 85
abbrev y_X_mender : Nat := 86
abbrev y_X_of : Nat := 87
abbrev y_X_row : Nat := 88
abbrev y_X_type : Nat := 89
abbrev y_X_back : Nat := 90
abbrev y_X_send : Nat := 91
abbrev y_X_told : Nat := 92
abbrev y_X_makes : Nat := 93
abbrev y_X_cost : Nat := 94
abbrev y_X_stays : Nat := 95
abbrev y_X_touches : Nat := 96
abbrev y_X_never : Nat := 97
abbrev y_X_round : Nat := 98
abbrev y_X_stands : Nat := 99
abbrev y_X_guess : Nat := 100
abbrev y_X_letter : Nat := 101
abbrev y_X_enough : Nat := 102
abbrev y_X_slips : Nat := 103
abbrev y_X_wrong : Nat := 104
abbrev y_X_chain : Nat := 105
abbrev y_X_meant : Nat := 106
abbrev y_X_likeliest : Nat := 107
abbrev y_X_who : Nat := 108
abbrev y_X_twins : Nat := 109
abbrev y_X_room : Nat := 110
abbrev y_X_saved : Nat := 111
abbrev y_X_book : Nat := 112
abbrev y_X_looked : Nat := 113
abbrev y_X_act : Nat := 114
abbrev y_X_trace : Nat := 115
abbrev y_X_as : Nat := 116
abbrev y_X_image : Nat := 117
abbrev y_X_undo : Nat := 118
abbrev y_X_count : Nat := 119
abbrev y_X_refusalOf : Nat := 120
abbrev y_X_staysOne : Nat := 121
abbrev y_X_wayTo : Nat := 122
abbrev y_X_shortWays : Nat := 123
abbrev y_X_runChain : Nat := 124
abbrev y_X_waysFrom : Nat := 125
abbrev y_X_isAt : Nat := 126
abbrev y_X_copyInts : Nat := 127
abbrev y_X_unlikeOf : Nat := 128
abbrev y_X_isUnder : Nat := 129
abbrev y_X_isWord : Nat := 130
abbrev y_X_lettersOf : Nat := 131
abbrev y_X_withoutLast : Nat := 132
abbrev y_X_isNear : Nat := 133
abbrev y_X_slipsOf : Nat := 134
abbrev y_X_partOf : Nat := 135
abbrev y_M_init : Nat := 136
abbrev y_M_in : Nat := 137
abbrev y_M_isMender : Nat := 138
abbrev y_M_isListed : Nat := 139
abbrev y_M_isWord : Nat := 140
abbrev y_M_size : Nat := 141
abbrev y_M_first : Nat := 142
abbrev y_M_keeps : Nat := 143
abbrev y_M_goesBack : Nat := 144
abbrev y_M_feed : Nat := 145
abbrev y_M_here : Nat := 146
abbrev y_M_must : Nat := 147
abbrev y_M_spells : Nat := 148
abbrev y_M_figures : Nat := 149
abbrev y_M_among : Nat := 150
abbrev y_M_emits : Nat := 151
abbrev y_M_factor : Nat := 152
abbrev y_M_every : Nat := 153
abbrev y_M_some : Nat := 154
abbrev y_M_much : Nat := 155
abbrev y_M_tellsHere : Nat := 156
abbrev y_M_clauseHere : Nat := 157
abbrev y_M_telephone : Nat := 158
abbrev y_M_tellsOf : Nat := 159
abbrev y_M_looks : Nat := 160
abbrev y_M_indexOf : Nat := 161
abbrev y_M_word : Nat := 162
abbrev y_M_listed : Nat := 163
abbrev y_M_weigh : Nat := 164
abbrev y_M_behind : Nat := 165
abbrev y_M_mender : Nat := 166
abbrev y_M_of : Nat := 167
abbrev y_M_row : Nat := 168
abbrev y_M_areNear : Nat := 169
abbrev y_M_spellsInto : Nat := 170
abbrev y_M_lesser : Nat := 171
abbrev y_M_changes : Nat := 172
abbrev y_M_farOf : Nat := 173
abbrev y_M_looksFor : Nat := 174
abbrev y_M_costOf : Nat := 175
abbrev y_M_isLeft : Nat := 176
abbrev y_M_madeOf : Nat := 177
abbrev y_M_makesOf : Nat := 178
abbrev y_M_types : Nat := 179
abbrev y_M_type : Nat := 180
abbrev y_M_back : Nat := 181
abbrev y_M_send : Nat := 182
abbrev y_M_told : Nat := 183
abbrev y_M_makes : Nat := 184
abbrev y_M_cost : Nat := 185
abbrev y_M_staysOf : Nat := 186
abbrev y_M_stays : Nat := 187
abbrev y_M_looksForShort : Nat := 188
abbrev y_M_looksForTouches : Nat := 189
abbrev y_M_touches : Nat := 190
abbrev y_M_never : Nat := 191
abbrev y_M_round : Nat := 192
abbrev y_M_stands : Nat := 193
abbrev y_M_begins : Nat := 194
abbrev y_M_aheadOf : Nat := 195
abbrev y_M_guess : Nat := 196
abbrev y_M_letter : Nat := 197
abbrev y_M_enough : Nat := 198
abbrev y_M_slipsFrom : Nat := 199
abbrev y_M_lowest : Nat := 200
abbrev y_M_slips : Nat := 201
abbrev y_M_count1 : Nat := 202
abbrev y_M_wrong : Nat := 203
abbrev y_M_unlike : Nat := 204
abbrev y_M_goesRound : Nat := 205
abbrev y_M_chain : Nat := 206
abbrev y_M_waysOf : Nat := 207
abbrev y_M_meant : Nat := 208
abbrev y_M_likeliest : Nat := 209
abbrev y_M_who : Nat := 210
abbrev y_M_twins : Nat := 211
abbrev y_M_room : Nat := 212
abbrev y_M_saved : Nat := 213
abbrev y_M_book : Nat := 214
abbrev y_M_looked : Nat := 215
abbrev y_M_ranBody : Nat := 216
abbrev y_M_isUnder : Nat := 217
abbrev y_M_plainMends : Nat := 218
abbrev y_M_mendsActs : Nat := 219
abbrev y_M_plainLeaves : Nat := 220
abbrev y_M_leavesActs : Nat := 221
abbrev y_M_plainTells : Nat := 222
abbrev y_M_tellsActs : Nat := 223
abbrev y_M_act : Nat := 224
abbrev y_M_trace : Nat := 225
abbrev y_M_as : Nat := 226
abbrev y_M_image : Nat := 227
abbrev y_M_undo : Nat := 228
abbrev y_M_count : Nat := 229
abbrev y_L_law : Nat := 230
/-- name, code, words of locals, what it answers, objects made -/
abbrev xq_Sg : Type := MethodName × ByteArray × Nat × Option FieldType × Nat
def xq_sgl : List (List xq_Sg) := [
  [(⟨"java/lang/Math", "min", "(II)I"⟩, prog_15_method_69_code, 2, (Option.some Jvm.ClassFile.FieldType.int), 0),
   (⟨"java/lang/Math", "max", "(II)I"⟩, prog_15_method_65_code, 2, (Option.some Jvm.ClassFile.FieldType.int), 0),
   (⟨"java/lang/Math", "floorMod", "(II)I"⟩, prog_15_method_50_code, 3, (Option.some Jvm.ClassFile.FieldType.int), 0),
   (⟨"java/lang/Integer", "bitCount", "(I)I"⟩, prog_14_method_49_code, 1, (Option.some Jvm.ClassFile.FieldType.int), 0),
   (⟨"java/lang/String", "length", "()I"⟩, prog_16_method_54_code, 1, (Option.some Jvm.ClassFile.FieldType.int), 0),
   (⟨"java/lang/String", "coder", "()B"⟩, prog_16_method_152_code, 1, (Option.some Jvm.ClassFile.FieldType.byte), 0),
   (⟨"java/lang/String", "isLatin1", "()Z"⟩, prog_16_method_154_code, 1, (Option.some Jvm.ClassFile.FieldType.boolean), 0),
   (⟨"java/lang/String", "charAt", "(I)C"⟩, prog_16_method_56_code, 2, (Option.some Jvm.ClassFile.FieldType.char), 0),
   (⟨"java/lang/String", "checkIndex", "(II)V"⟩, prog_16_method_155_code, 2, (Option.none : Option Jvm.ClassFile.FieldType), 0),
   (⟨"java/lang/String", "indexOf", "(I)I"⟩, prog_16_method_79_code, 2, (Option.some Jvm.ClassFile.FieldType.int), 0),
   (⟨"java/lang/String", "indexOf", "(II)I"⟩, prog_16_method_80_code, 3, (Option.some Jvm.ClassFile.FieldType.int), 0),
   (⟨"java/lang/StringLatin1", "charAt", "([BI)C"⟩, prog_17_method_2_code, 2, (Option.some Jvm.ClassFile.FieldType.char), 0),
   (⟨"java/lang/StringLatin1", "canEncode", "(I)Z"⟩, prog_17_method_4_code, 1, (Option.some Jvm.ClassFile.FieldType.boolean), 0),
   (⟨"java/lang/StringLatin1", "indexOf", "([BIII)I"⟩, prog_17_method_22_code, 4, (Option.some Jvm.ClassFile.FieldType.int), 0),
   (⟨"java/lang/StringLatin1", "indexOfChar", "([BIII)I"⟩, prog_17_method_23_code, 6, (Option.some Jvm.ClassFile.FieldType.int), 0),
   (⟨"jdk/internal/util/Preconditions", "checkIndex", "(IILjava/util/function/BiFunction;)I"⟩, prog_19_method_11_code, 3, (Option.some Jvm.ClassFile.FieldType.int), 0)],
  [(⟨"PutBack$Acts", "<init>", "()V"⟩, prog_2_method_1_code, 1, (Option.none : Option Jvm.ClassFile.FieldType), 1),
   (⟨"PutBack$Acts", "forget", "()V"⟩, prog_2_method_2_code, 1, (Option.none : Option Jvm.ClassFile.FieldType), 0),
   (⟨"PutBack$Acts", "start", "(IIIII)I"⟩, prog_2_method_3_code, 6, (Option.some Jvm.ClassFile.FieldType.int), 0),
   (⟨"PutBack$Acts", "run", "(IIII)I"⟩, prog_2_method_4_code, 9, (Option.some Jvm.ClassFile.FieldType.int), 0),
   (⟨"PutBack$Acts", "holderOf", "(II)I"⟩, prog_2_method_5_code, 4, (Option.some Jvm.ClassFile.FieldType.int), 0),
   (⟨"PutBack$Acts", "begin", "(I)V"⟩, prog_2_method_6_code, 2, (Option.none : Option Jvm.ClassFile.FieldType), 0),
   (⟨"PutBack$Book", "<init>", "()V"⟩, prog_3_method_1_code, 1, (Option.none : Option Jvm.ClassFile.FieldType), 3),
   (⟨"PutBack$Book", "add", "(III)Z"⟩, prog_3_method_2_code, 4, (Option.some Jvm.ClassFile.FieldType.boolean), 0),
   (⟨"PutBack$Book", "copy", "(LPutBack$Book;)V"⟩, prog_3_method_3_code, 2, (Option.none : Option Jvm.ClassFile.FieldType), 0),
   (⟨"PutBack$Crew", "<init>", "()V"⟩, prog_4_method_1_code, 1, (Option.none : Option Jvm.ClassFile.FieldType), 3),
   (⟨"PutBack$Crew", "has", "(I)Z"⟩, prog_4_method_2_code, 2, (Option.some Jvm.ClassFile.FieldType.boolean), 0),
   (⟨"PutBack$Crew", "add", "(II)Z"⟩, prog_4_method_3_code, 4, (Option.some Jvm.ClassFile.FieldType.boolean), 0),
   (⟨"PutBack$Crew", "copy", "(LPutBack$Crew;)V"⟩, prog_4_method_4_code, 2, (Option.none : Option Jvm.ClassFile.FieldType), 0),
   (⟨"PutBack$Maker", "<init>", "()V"⟩, prog_5_method_1_code, 1, (Option.none : Option Jvm.ClassFile.FieldType), 28),
   (⟨"PutBack$Maker", "settle", "()V"⟩, prog_5_method_2_code, 1, (Option.none : Option Jvm.ClassFile.FieldType), 0),
   (⟨"PutBack$Maker", "typeOnce", "(II)I"⟩, prog_5_method_3_code, 4, (Option.some Jvm.ClassFile.FieldType.int), 0)],
  [(⟨"PutBack$Maker", "madeOf", "(II)I"⟩, prog_5_method_4_code, 8, (Option.some Jvm.ClassFile.FieldType.int), 0),
   (⟨"PutBack$Maker", "costOf", "(III)I"⟩, prog_5_method_5_code, 4, (Option.some Jvm.ClassFile.FieldType.int), 0),
   (⟨"PutBack$Maker", "priceOf", "(III)I"⟩, prog_5_method_6_code, 4, (Option.some Jvm.ClassFile.FieldType.int), 0),
   (⟨"PutBack$Maker", "plainFar", "(II)I"⟩, prog_5_method_7_code, 3, (Option.some Jvm.ClassFile.FieldType.int), 0),
   (⟨"PutBack$Maker", "slipsInto", "(III)I"⟩, prog_5_method_8_code, 10, (Option.some Jvm.ClassFile.FieldType.int), 0),
   (⟨"PutBack$Maker", "kindOf", "(I)I"⟩, prog_5_method_9_code, 2, (Option.some Jvm.ClassFile.FieldType.int), 0),
   (⟨"PutBack$Maker", "spread", "(I)V"⟩, prog_5_method_10_code, 4, (Option.none : Option Jvm.ClassFile.FieldType), 0),
   (⟨"PutBack$Maker", "spreadCost", "(II)I"⟩, prog_5_method_11_code, 5, (Option.some Jvm.ClassFile.FieldType.int), 0),
   (⟨"PutBack$Maker", "factsOf", "(II)[I"⟩, prog_5_method_12_code, 3, (Option.some (Jvm.ClassFile.FieldType.array Jvm.ClassFile.FieldType.int)), 0),
   (⟨"PutBack$Maker", "spreadFar", "(II)I"⟩, prog_5_method_13_code, 4, (Option.some Jvm.ClassFile.FieldType.int), 0),
   (⟨"PutBack$Maker", "isBeginning", "(I)Z"⟩, prog_5_method_14_code, 3, (Option.some Jvm.ClassFile.FieldType.boolean), 0),
   (⟨"PutBack$Maker", "leastSum", "(II)I"⟩, prog_5_method_15_code, 11, (Option.some Jvm.ClassFile.FieldType.int), 0),
   (⟨"PutBack$Phone", "<init>", "()V"⟩, prog_6_method_1_code, 1, (Option.none : Option Jvm.ClassFile.FieldType), 3),
   (⟨"PutBack$Phone", "clear", "()V"⟩, prog_6_method_2_code, 1, (Option.none : Option Jvm.ClassFile.FieldType), 0),
   (⟨"PutBack$Phone", "put", "(I)V"⟩, prog_6_method_3_code, 2, (Option.none : Option Jvm.ClassFile.FieldType), 0),
   (⟨"PutBack$Phone", "close", "(I)V"⟩, prog_6_method_4_code, 2, (Option.none : Option Jvm.ClassFile.FieldType), 0)],
  [(⟨"PutBack$Phone", "extra", "([I)I"⟩, prog_6_method_5_code, 5, (Option.some Jvm.ClassFile.FieldType.int), 0),
   (⟨"PutBack$Phone", "holds", "(II[I)Z"⟩, prog_6_method_6_code, 8, (Option.some Jvm.ClassFile.FieldType.boolean), 0),
   (⟨"PutBack$Phone", "passes", "(I[I)Z"⟩, prog_6_method_7_code, 4, (Option.some Jvm.ClassFile.FieldType.boolean), 0),
   (⟨"PutBack$Phone", "copy", "(LPutBack$Phone;)V"⟩, prog_6_method_8_code, 2, (Option.none : Option Jvm.ClassFile.FieldType), 0),
   (⟨"PutBack$Reader", "<init>", "()V"⟩, prog_7_method_1_code, 1, (Option.none : Option Jvm.ClassFile.FieldType), 5),
   (⟨"PutBack$Reader", "faultOf", "([II)I"⟩, prog_7_method_2_code, 4, (Option.some Jvm.ClassFile.FieldType.int), 0),
   (⟨"PutBack$Reader", "peek", "()I"⟩, prog_7_method_3_code, 1, (Option.some Jvm.ClassFile.FieldType.int), 0),
   (⟨"PutBack$Reader", "readSign", "(I)Z"⟩, prog_7_method_4_code, 2, (Option.some Jvm.ClassFile.FieldType.boolean), 0),
   (⟨"PutBack$Reader", "readName", "(Ljava/lang/String;)Z"⟩, prog_7_method_5_code, 3, (Option.some Jvm.ClassFile.FieldType.boolean), 0),
   (⟨"PutBack$Reader", "readClause", "()Z"⟩, prog_7_method_6_code, 3, (Option.some Jvm.ClassFile.FieldType.boolean), 0),
   (⟨"PutBack$Reader", "nameBy", "(I)Ljava/lang/String;"⟩, prog_7_method_7_code, 1, (Option.some (Jvm.ClassFile.FieldType.object "java/lang/String")), 0),
   (⟨"PutBack$Reader", "readNumber", "()I"⟩, prog_7_method_8_code, 3, (Option.some Jvm.ClassFile.FieldType.int), 0),
   (⟨"PutBack$Reader", "readEither", "(I)Z"⟩, prog_7_method_9_code, 4, (Option.some Jvm.ClassFile.FieldType.boolean), 0),
   (⟨"PutBack$Reader", "readFactor", "(I)Z"⟩, prog_7_method_10_code, 3, (Option.some Jvm.ClassFile.FieldType.boolean), 0),
   (⟨"PutBack$Reader", "readTest", "()Z"⟩, prog_7_method_11_code, 4, (Option.some Jvm.ClassFile.FieldType.boolean), 0),
   (⟨"PutBack$Reader", "readOneOf", "(Ljava/lang/String;)I"⟩, prog_7_method_12_code, 4, (Option.some Jvm.ClassFile.FieldType.int), 0)],
  [(⟨"PutBack$State", "<init>", "()V"⟩, prog_8_method_1_code, 1, (Option.none : Option Jvm.ClassFile.FieldType), 23),
   (⟨"PutBack$State", "copy", "(LPutBack$State;)V"⟩, prog_8_method_2_code, 2, (Option.none : Option Jvm.ClassFile.FieldType), 0),
   (⟨"PutBack$Text", "<init>", "()V"⟩, prog_9_method_1_code, 1, (Option.none : Option Jvm.ClassFile.FieldType), 3),
   (⟨"PutBack$Text", "add", "(II)V"⟩, prog_9_method_2_code, 3, (Option.none : Option Jvm.ClassFile.FieldType), 0),
   (⟨"PutBack$Text", "last", "()I"⟩, prog_9_method_3_code, 1, (Option.some Jvm.ClassFile.FieldType.int), 0),
   (⟨"PutBack$Text", "takeBack", "()Z"⟩, prog_9_method_4_code, 2, (Option.some Jvm.ClassFile.FieldType.boolean), 0),
   (⟨"PutBack$Text", "isLeft", "(I)Z"⟩, prog_9_method_5_code, 3, (Option.some Jvm.ClassFile.FieldType.boolean), 0),
   (⟨"PutBack$Text", "copy", "(LPutBack$Text;)V"⟩, prog_9_method_6_code, 2, (Option.none : Option Jvm.ClassFile.FieldType), 0),
   (⟨"PutBack$Words", "<init>", "()V"⟩, prog_10_method_1_code, 1, (Option.none : Option Jvm.ClassFile.FieldType), 5),
   (⟨"PutBack$Words", "has", "(I)Z"⟩, prog_10_method_2_code, 2, (Option.some Jvm.ClassFile.FieldType.boolean), 0),
   (⟨"PutBack$Words", "add", "(II)Z"⟩, prog_10_method_3_code, 5, (Option.some Jvm.ClassFile.FieldType.boolean), 0),
   (⟨"PutBack$Words", "numberOf", "(I)I"⟩, prog_10_method_4_code, 3, (Option.some Jvm.ClassFile.FieldType.int), 0),
   (⟨"PutBack$Words", "begins", "(II)Z"⟩, prog_10_method_5_code, 4, (Option.some Jvm.ClassFile.FieldType.boolean), 0),
   (⟨"PutBack$Words", "aheadOf", "(II)I"⟩, prog_10_method_6_code, 6, (Option.some Jvm.ClassFile.FieldType.int), 0),
   (⟨"PutBack$Words", "copy", "(LPutBack$Words;)V"⟩, prog_10_method_7_code, 2, (Option.none : Option Jvm.ClassFile.FieldType), 0),
   (⟨"PutBack", "<init>", "()V"⟩, prog_1_method_1_code, 1, (Option.none : Option Jvm.ClassFile.FieldType), 63)],
  [(⟨"PutBack", "feed", "(I)I"⟩, prog_1_method_2_code, 2, (Option.some Jvm.ClassFile.FieldType.int), 0),
   (⟨"PutBack", "telephone", "()I"⟩, prog_1_method_3_code, 2, (Option.some Jvm.ClassFile.FieldType.int), 0),
   (⟨"PutBack", "word", "(II)I"⟩, prog_1_method_4_code, 3, (Option.some Jvm.ClassFile.FieldType.int), 0),
   (⟨"PutBack", "listed", "(II)I"⟩, prog_1_method_5_code, 3, (Option.some Jvm.ClassFile.FieldType.int), 0),
   (⟨"PutBack", "weigh", "(II)I"⟩, prog_1_method_6_code, 4, (Option.some Jvm.ClassFile.FieldType.int), 0),
   (⟨"PutBack", "behind", "(IIZ)I"⟩, prog_1_method_7_code, 6, (Option.some Jvm.ClassFile.FieldType.int), 0),
   (⟨"PutBack", "mender", "(II)I"⟩, prog_1_method_8_code, 3, (Option.some Jvm.ClassFile.FieldType.int), 0),
   (⟨"PutBack", "of", "(II)I"⟩, prog_1_method_9_code, 3, (Option.some Jvm.ClassFile.FieldType.int), 0),
   (⟨"PutBack", "row", "(III)I"⟩, prog_1_method_10_code, 6, (Option.some Jvm.ClassFile.FieldType.int), 0),
   (⟨"PutBack", "type", "(II)I"⟩, prog_1_method_11_code, 4, (Option.some Jvm.ClassFile.FieldType.int), 0),
   (⟨"PutBack", "back", "()I"⟩, prog_1_method_12_code, 1, (Option.some Jvm.ClassFile.FieldType.int), 0),
   (⟨"PutBack", "send", "()I"⟩, prog_1_method_13_code, 2, (Option.some Jvm.ClassFile.FieldType.int), 0),
   (⟨"PutBack", "told", "(I)I"⟩, prog_1_method_14_code, 3, (Option.some Jvm.ClassFile.FieldType.int), 0),
   (⟨"PutBack", "makes", "(II)I"⟩, prog_1_method_15_code, 4, (Option.some Jvm.ClassFile.FieldType.int), 0),
   (⟨"PutBack", "cost", "(IIII)I"⟩, prog_1_method_16_code, 5, (Option.some Jvm.ClassFile.FieldType.int), 0),
   (⟨"PutBack", "stays", "(I)I"⟩, prog_1_method_17_code, 4, (Option.some Jvm.ClassFile.FieldType.int), 0)],
  [(⟨"PutBack", "touches", "(III)I"⟩, prog_1_method_18_code, 7, (Option.some Jvm.ClassFile.FieldType.int), 0),
   (⟨"PutBack", "never", "(I)I"⟩, prog_1_method_19_code, 4, (Option.some Jvm.ClassFile.FieldType.int), 0),
   (⟨"PutBack", "round", "(III)I"⟩, prog_1_method_20_code, 6, (Option.some Jvm.ClassFile.FieldType.int), 0),
   (⟨"PutBack", "stands", "(II)I"⟩, prog_1_method_21_code, 5, (Option.some Jvm.ClassFile.FieldType.int), 0),
   (⟨"PutBack", "guess", "(II)I"⟩, prog_1_method_22_code, 4, (Option.some Jvm.ClassFile.FieldType.int), 0),
   (⟨"PutBack", "letter", "(I)I"⟩, prog_1_method_23_code, 4, (Option.some Jvm.ClassFile.FieldType.int), 0),
   (⟨"PutBack", "enough", "(II)I"⟩, prog_1_method_24_code, 4, (Option.some Jvm.ClassFile.FieldType.int), 0),
   (⟨"PutBack", "slips", "(III)J"⟩, prog_1_method_25_code, 4, (Option.some Jvm.ClassFile.FieldType.long), 0),
   (⟨"PutBack", "wrong", "(II)J"⟩, prog_1_method_26_code, 3, (Option.some Jvm.ClassFile.FieldType.long), 0),
   (⟨"PutBack", "chain", "(III)I"⟩, prog_1_method_27_code, 5, (Option.some Jvm.ClassFile.FieldType.int), 0),
   (⟨"PutBack", "meant", "(II)I"⟩, prog_1_method_28_code, 6, (Option.some Jvm.ClassFile.FieldType.int), 0),
   (⟨"PutBack", "likeliest", "(II)I"⟩, prog_1_method_29_code, 8, (Option.some Jvm.ClassFile.FieldType.int), 0),
   (⟨"PutBack", "who", "(II)I"⟩, prog_1_method_30_code, 5, (Option.some Jvm.ClassFile.FieldType.int), 0),
   (⟨"PutBack", "twins", "()I"⟩, prog_1_method_31_code, 6, (Option.some Jvm.ClassFile.FieldType.int), 0),
   (⟨"PutBack", "room", "(I)I"⟩, prog_1_method_32_code, 2, (Option.some Jvm.ClassFile.FieldType.int), 0),
   (⟨"PutBack", "saved", "(I)I"⟩, prog_1_method_33_code, 4, (Option.some Jvm.ClassFile.FieldType.int), 0)],
  [(⟨"PutBack", "book", "(III)I"⟩, prog_1_method_34_code, 4, (Option.some Jvm.ClassFile.FieldType.int), 0),
   (⟨"PutBack", "looked", "()I"⟩, prog_1_method_35_code, 3, (Option.some Jvm.ClassFile.FieldType.int), 0),
   (⟨"PutBack", "act", "(III)I"⟩, prog_1_method_36_code, 4, (Option.some Jvm.ClassFile.FieldType.int), 0),
   (⟨"PutBack", "trace", "(I)I"⟩, prog_1_method_37_code, 2, (Option.some Jvm.ClassFile.FieldType.int), 0),
   (⟨"PutBack", "as", "(II)I"⟩, prog_1_method_38_code, 3, (Option.some Jvm.ClassFile.FieldType.int), 0),
   (⟨"PutBack", "image", "()I"⟩, prog_1_method_39_code, 1, (Option.some Jvm.ClassFile.FieldType.int), 0),
   (⟨"PutBack", "undo", "()I"⟩, prog_1_method_40_code, 1, (Option.some Jvm.ClassFile.FieldType.int), 0),
   (⟨"PutBack", "count", "(I)I"⟩, prog_1_method_41_code, 2, (Option.some Jvm.ClassFile.FieldType.int), 0),
   (⟨"PutBack", "refusalOf", "(II)I"⟩, prog_1_method_42_code, 3, (Option.some Jvm.ClassFile.FieldType.int), 0),
   (⟨"PutBack", "staysOne", "(II)Z"⟩, prog_1_method_43_code, 4, (Option.some Jvm.ClassFile.FieldType.boolean), 0),
   (⟨"PutBack", "wayTo", "(II)I"⟩, prog_1_method_44_code, 4, (Option.some Jvm.ClassFile.FieldType.int), 0),
   (⟨"PutBack", "shortWays", "(I)I"⟩, prog_1_method_45_code, 5, (Option.some Jvm.ClassFile.FieldType.int), 0),
   (⟨"PutBack", "runChain", "(II)I"⟩, prog_1_method_46_code, 9, (Option.some Jvm.ClassFile.FieldType.int), 0),
   (⟨"PutBack", "waysFrom", "(III)I"⟩, prog_1_method_47_code, 6, (Option.some Jvm.ClassFile.FieldType.int), 0),
   (⟨"PutBack", "isAt", "(II)Z"⟩, prog_1_method_48_code, 2, (Option.some Jvm.ClassFile.FieldType.boolean), 0),
   (⟨"PutBack", "copyInts", "([I[I)V"⟩, prog_1_method_49_code, 4, (Option.none : Option Jvm.ClassFile.FieldType), 0)],
  [(⟨"PutBack", "unlikeOf", "([II)I"⟩, prog_1_method_50_code, 6, (Option.some Jvm.ClassFile.FieldType.int), 0),
   (⟨"PutBack", "isUnder", "(II)Z"⟩, prog_1_method_51_code, 4, (Option.some Jvm.ClassFile.FieldType.boolean), 0),
   (⟨"PutBack", "isWord", "(I)Z"⟩, prog_1_method_52_code, 1, (Option.some Jvm.ClassFile.FieldType.boolean), 0),
   (⟨"PutBack", "lettersOf", "(I)I"⟩, prog_1_method_53_code, 4, (Option.some Jvm.ClassFile.FieldType.int), 0),
   (⟨"PutBack", "withoutLast", "(II)I"⟩, prog_1_method_54_code, 4, (Option.some Jvm.ClassFile.FieldType.int), 0),
   (⟨"PutBack", "isNear", "(II)Z"⟩, prog_1_method_55_code, 3, (Option.some Jvm.ClassFile.FieldType.boolean), 0),
   (⟨"PutBack", "slipsOf", "(I)I"⟩, prog_1_method_56_code, 5, (Option.some Jvm.ClassFile.FieldType.int), 0),
   (⟨"PutBack", "partOf", "(III)J"⟩, prog_1_method_57_code, 7, (Option.some Jvm.ClassFile.FieldType.long), 0),
   (⟨"PutBackModel", "<init>", "()V"⟩, prog_12_method_1_code, 1, (Option.none : Option Jvm.ClassFile.FieldType), 15),
   (⟨"PutBackModel", "in", "(III)Z"⟩, prog_12_method_3_code, 3, (Option.some Jvm.ClassFile.FieldType.boolean), 0),
   (⟨"PutBackModel", "isMender", "(I)Z"⟩, prog_12_method_4_code, 2, (Option.some Jvm.ClassFile.FieldType.boolean), 0),
   (⟨"PutBackModel", "isListed", "(I)Z"⟩, prog_12_method_5_code, 2, (Option.some Jvm.ClassFile.FieldType.boolean), 0),
   (⟨"PutBackModel", "isWord", "(I)Z"⟩, prog_12_method_6_code, 3, (Option.some Jvm.ClassFile.FieldType.boolean), 0),
   (⟨"PutBackModel", "size", "(I)I"⟩, prog_12_method_7_code, 3, (Option.some Jvm.ClassFile.FieldType.int), 0),
   (⟨"PutBackModel", "first", "(II)I"⟩, prog_12_method_8_code, 4, (Option.some Jvm.ClassFile.FieldType.int), 0),
   (⟨"PutBackModel", "keeps", "()V"⟩, prog_12_method_9_code, 2, (Option.none : Option Jvm.ClassFile.FieldType), 0)],
  [(⟨"PutBackModel", "goesBack", "()V"⟩, prog_12_method_10_code, 2, (Option.none : Option Jvm.ClassFile.FieldType), 0),
   (⟨"PutBackModel", "feed", "(I)I"⟩, prog_12_method_11_code, 2, (Option.some Jvm.ClassFile.FieldType.int), 0),
   (⟨"PutBackModel", "here", "()I"⟩, prog_12_method_12_code, 1, (Option.some Jvm.ClassFile.FieldType.int), 0),
   (⟨"PutBackModel", "must", "(I)V"⟩, prog_12_method_13_code, 2, (Option.none : Option Jvm.ClassFile.FieldType), 0),
   (⟨"PutBackModel", "spells", "(Ljava/lang/String;)V"⟩, prog_12_method_14_code, 3, (Option.none : Option Jvm.ClassFile.FieldType), 0),
   (⟨"PutBackModel", "figures", "()I"⟩, prog_12_method_15_code, 3, (Option.some Jvm.ClassFile.FieldType.int), 0),
   (⟨"PutBackModel", "among", "(Ljava/lang/String;)I"⟩, prog_12_method_16_code, 3, (Option.some Jvm.ClassFile.FieldType.int), 0),
   (⟨"PutBackModel", "emits", "(I)V"⟩, prog_12_method_17_code, 2, (Option.none : Option Jvm.ClassFile.FieldType), 0),
   (⟨"PutBackModel", "factor", "()V"⟩, prog_12_method_18_code, 5, (Option.none : Option Jvm.ClassFile.FieldType), 0),
   (⟨"PutBackModel", "every", "()V"⟩, prog_12_method_19_code, 1, (Option.none : Option Jvm.ClassFile.FieldType), 0),
   (⟨"PutBackModel", "some", "()V"⟩, prog_12_method_20_code, 1, (Option.none : Option Jvm.ClassFile.FieldType), 0),
   (⟨"PutBackModel", "much", "(ILjava/lang/String;)V"⟩, prog_12_method_21_code, 4, (Option.none : Option Jvm.ClassFile.FieldType), 0),
   (⟨"PutBackModel", "tellsHere", "(ILjava/lang/String;)V"⟩, prog_12_method_22_code, 4, (Option.none : Option Jvm.ClassFile.FieldType), 0),
   (⟨"PutBackModel", "clauseHere", "()V"⟩, prog_12_method_23_code, 1, (Option.none : Option Jvm.ClassFile.FieldType), 0),
   (⟨"PutBackModel", "telephone", "()I"⟩, prog_12_method_24_code, 2, (Option.some Jvm.ClassFile.FieldType.int), 0),
   (⟨"PutBackModel", "tellsOf", "(II)I"⟩, prog_12_method_25_code, 3, (Option.some Jvm.ClassFile.FieldType.int), 0)],
  [(⟨"PutBackModel", "looks", "(III)I"⟩, prog_12_method_26_code, 13, (Option.some Jvm.ClassFile.FieldType.int), 0),
   (⟨"PutBackModel", "indexOf", "(I)I"⟩, prog_12_method_27_code, 3, (Option.some Jvm.ClassFile.FieldType.int), 0),
   (⟨"PutBackModel", "word", "(II)I"⟩, prog_12_method_28_code, 5, (Option.some Jvm.ClassFile.FieldType.int), 0),
   (⟨"PutBackModel", "listed", "(II)I"⟩, prog_12_method_29_code, 3, (Option.some Jvm.ClassFile.FieldType.int), 0),
   (⟨"PutBackModel", "weigh", "(II)I"⟩, prog_12_method_30_code, 4, (Option.some Jvm.ClassFile.FieldType.int), 0),
   (⟨"PutBackModel", "behind", "(IIZ)I"⟩, prog_12_method_31_code, 5, (Option.some Jvm.ClassFile.FieldType.int), 0),
   (⟨"PutBackModel", "mender", "(II)I"⟩, prog_12_method_32_code, 5, (Option.some Jvm.ClassFile.FieldType.int), 0),
   (⟨"PutBackModel", "of", "(II)I"⟩, prog_12_method_33_code, 3, (Option.some Jvm.ClassFile.FieldType.int), 0),
   (⟨"PutBackModel", "row", "(III)I"⟩, prog_12_method_34_code, 5, (Option.some Jvm.ClassFile.FieldType.int), 0),
   (⟨"PutBackModel", "areNear", "(II)Z"⟩, prog_12_method_35_code, 4, (Option.some Jvm.ClassFile.FieldType.boolean), 0),
   (⟨"PutBackModel", "spellsInto", "(I[I)V"⟩, prog_12_method_36_code, 5, (Option.none : Option Jvm.ClassFile.FieldType), 0),
   (⟨"PutBackModel", "lesser", "(II)I"⟩, prog_12_method_37_code, 2, (Option.some Jvm.ClassFile.FieldType.int), 0),
   (⟨"PutBackModel", "changes", "(IIZ)I"⟩, prog_12_method_38_code, 10, (Option.some Jvm.ClassFile.FieldType.int), 0),
   (⟨"PutBackModel", "farOf", "(III)I"⟩, prog_12_method_39_code, 6, (Option.some Jvm.ClassFile.FieldType.int), 0),
   (⟨"PutBackModel", "looksFor", "(II)V"⟩, prog_12_method_40_code, 4, (Option.none : Option Jvm.ClassFile.FieldType), 0),
   (⟨"PutBackModel", "costOf", "(III)I"⟩, prog_12_method_41_code, 7, (Option.some Jvm.ClassFile.FieldType.int), 0)],
  [(⟨"PutBackModel", "isLeft", "(I)Z"⟩, prog_12_method_42_code, 4, (Option.some Jvm.ClassFile.FieldType.boolean), 0),
   (⟨"PutBackModel", "madeOf", "(II)I"⟩, prog_12_method_43_code, 8, (Option.some Jvm.ClassFile.FieldType.int), 0),
   (⟨"PutBackModel", "makesOf", "(II)I"⟩, prog_12_method_44_code, 3, (Option.some Jvm.ClassFile.FieldType.int), 0),
   (⟨"PutBackModel", "types", "(II)I"⟩, prog_12_method_45_code, 5, (Option.some Jvm.ClassFile.FieldType.int), 0),
   (⟨"PutBackModel", "type", "(II)I"⟩, prog_12_method_46_code, 4, (Option.some Jvm.ClassFile.FieldType.int), 0),
   (⟨"PutBackModel", "back", "()I"⟩, prog_12_method_47_code, 3, (Option.some Jvm.ClassFile.FieldType.int), 0),
   (⟨"PutBackModel", "send", "()I"⟩, prog_12_method_48_code, 2, (Option.some Jvm.ClassFile.FieldType.int), 0),
   (⟨"PutBackModel", "told", "(I)I"⟩, prog_12_method_49_code, 2, (Option.some Jvm.ClassFile.FieldType.int), 0),
   (⟨"PutBackModel", "makes", "(II)I"⟩, prog_12_method_50_code, 3, (Option.some Jvm.ClassFile.FieldType.int), 0),
   (⟨"PutBackModel", "cost", "(IIII)I"⟩, prog_12_method_51_code, 6, (Option.some Jvm.ClassFile.FieldType.int), 0),
   (⟨"PutBackModel", "staysOf", "(I)I"⟩, prog_12_method_52_code, 4, (Option.some Jvm.ClassFile.FieldType.int), 0),
   (⟨"PutBackModel", "stays", "(I)I"⟩, prog_12_method_53_code, 2, (Option.some Jvm.ClassFile.FieldType.int), 0),
   (⟨"PutBackModel", "looksForShort", "(I)V"⟩, prog_12_method_54_code, 4, (Option.none : Option Jvm.ClassFile.FieldType), 0),
   (⟨"PutBackModel", "looksForTouches", "(II)V"⟩, prog_12_method_55_code, 4, (Option.none : Option Jvm.ClassFile.FieldType), 0),
   (⟨"PutBackModel", "touches", "(III)I"⟩, prog_12_method_56_code, 4, (Option.some Jvm.ClassFile.FieldType.int), 0),
   (⟨"PutBackModel", "never", "(I)I"⟩, prog_12_method_57_code, 5, (Option.some Jvm.ClassFile.FieldType.int), 0)],
  [(⟨"PutBackModel", "round", "(III)I"⟩, prog_12_method_58_code, 6, (Option.some Jvm.ClassFile.FieldType.int), 0),
   (⟨"PutBackModel", "stands", "(II)I"⟩, prog_12_method_59_code, 5, (Option.some Jvm.ClassFile.FieldType.int), 0),
   (⟨"PutBackModel", "begins", "(II)Z"⟩, prog_12_method_60_code, 4, (Option.some Jvm.ClassFile.FieldType.boolean), 0),
   (⟨"PutBackModel", "aheadOf", "(II)I"⟩, prog_12_method_61_code, 5, (Option.some Jvm.ClassFile.FieldType.int), 0),
   (⟨"PutBackModel", "guess", "(II)I"⟩, prog_12_method_62_code, 4, (Option.some Jvm.ClassFile.FieldType.int), 0),
   (⟨"PutBackModel", "letter", "(I)I"⟩, prog_12_method_63_code, 3, (Option.some Jvm.ClassFile.FieldType.int), 0),
   (⟨"PutBackModel", "enough", "(II)I"⟩, prog_12_method_64_code, 6, (Option.some Jvm.ClassFile.FieldType.int), 0),
   (⟨"PutBackModel", "slipsFrom", "(III)V"⟩, prog_12_method_65_code, 7, (Option.none : Option Jvm.ClassFile.FieldType), 0),
   (⟨"PutBackModel", "lowest", "(JJI)J"⟩, prog_12_method_66_code, 11, (Option.some Jvm.ClassFile.FieldType.long), 0),
   (⟨"PutBackModel", "slips", "(III)J"⟩, prog_12_method_67_code, 4, (Option.some Jvm.ClassFile.FieldType.long), 0),
   (⟨"PutBackModel", "count1", "(I)I"⟩, prog_12_method_68_code, 3, (Option.some Jvm.ClassFile.FieldType.int), 0),
   (⟨"PutBackModel", "wrong", "(II)J"⟩, prog_12_method_69_code, 3, (Option.some Jvm.ClassFile.FieldType.long), 0),
   (⟨"PutBackModel", "unlike", "()I"⟩, prog_12_method_70_code, 5, (Option.some Jvm.ClassFile.FieldType.int), 0),
   (⟨"PutBackModel", "goesRound", "(I)Z"⟩, prog_12_method_71_code, 5, (Option.some Jvm.ClassFile.FieldType.boolean), 0),
   (⟨"PutBackModel", "chain", "(III)I"⟩, prog_12_method_72_code, 6, (Option.some Jvm.ClassFile.FieldType.int), 0),
   (⟨"PutBackModel", "waysOf", "(III)I"⟩, prog_12_method_73_code, 4, (Option.some Jvm.ClassFile.FieldType.int), 0)],
  [(⟨"PutBackModel", "meant", "(II)I"⟩, prog_12_method_74_code, 5, (Option.some Jvm.ClassFile.FieldType.int), 0),
   (⟨"PutBackModel", "likeliest", "(II)I"⟩, prog_12_method_75_code, 7, (Option.some Jvm.ClassFile.FieldType.int), 0),
   (⟨"PutBackModel", "who", "(II)I"⟩, prog_12_method_76_code, 5, (Option.some Jvm.ClassFile.FieldType.int), 0),
   (⟨"PutBackModel", "twins", "()I"⟩, prog_12_method_77_code, 6, (Option.some Jvm.ClassFile.FieldType.int), 0),
   (⟨"PutBackModel", "room", "(I)I"⟩, prog_12_method_78_code, 4, (Option.some Jvm.ClassFile.FieldType.int), 0),
   (⟨"PutBackModel", "saved", "(I)I"⟩, prog_12_method_79_code, 5, (Option.some Jvm.ClassFile.FieldType.int), 0),
   (⟨"PutBackModel", "book", "(III)I"⟩, prog_12_method_80_code, 4, (Option.some Jvm.ClassFile.FieldType.int), 0),
   (⟨"PutBackModel", "looked", "()I"⟩, prog_12_method_81_code, 2, (Option.some Jvm.ClassFile.FieldType.int), 0),
   (⟨"PutBackModel", "ranBody", "(I)V"⟩, prog_12_method_82_code, 2, (Option.none : Option Jvm.ClassFile.FieldType), 0),
   (⟨"PutBackModel", "isUnder", "(II)Z"⟩, prog_12_method_83_code, 2, (Option.some Jvm.ClassFile.FieldType.boolean), 0),
   (⟨"PutBackModel", "plainMends", "(I)I"⟩, prog_12_method_84_code, 2, (Option.some Jvm.ClassFile.FieldType.int), 0),
   (⟨"PutBackModel", "mendsActs", "(I)I"⟩, prog_12_method_85_code, 2, (Option.some Jvm.ClassFile.FieldType.int), 0),
   (⟨"PutBackModel", "plainLeaves", "(I)I"⟩, prog_12_method_86_code, 2, (Option.some Jvm.ClassFile.FieldType.int), 0),
   (⟨"PutBackModel", "leavesActs", "(I)I"⟩, prog_12_method_87_code, 2, (Option.some Jvm.ClassFile.FieldType.int), 0),
   (⟨"PutBackModel", "plainTells", "(I)I"⟩, prog_12_method_88_code, 2, (Option.some Jvm.ClassFile.FieldType.int), 0),
   (⟨"PutBackModel", "tellsActs", "(I)I"⟩, prog_12_method_89_code, 3, (Option.some Jvm.ClassFile.FieldType.int), 0)],
  [(⟨"PutBackModel", "act", "(III)I"⟩, prog_12_method_90_code, 4, (Option.some Jvm.ClassFile.FieldType.int), 0),
   (⟨"PutBackModel", "trace", "(I)I"⟩, prog_12_method_91_code, 2, (Option.some Jvm.ClassFile.FieldType.int), 0),
   (⟨"PutBackModel", "as", "(II)I"⟩, prog_12_method_92_code, 3, (Option.some Jvm.ClassFile.FieldType.int), 0),
   (⟨"PutBackModel", "image", "()I"⟩, prog_12_method_93_code, 2, (Option.some Jvm.ClassFile.FieldType.int), 0),
   (⟨"PutBackModel", "undo", "()I"⟩, prog_12_method_94_code, 2, (Option.some Jvm.ClassFile.FieldType.int), 0),
   (⟨"PutBackModel", "count", "(I)I"⟩, prog_12_method_95_code, 2, (Option.some Jvm.ClassFile.FieldType.int), 0)]]
def xq_stx : List String := ["limit", "step", "dear", "free", "limit ", "step ", "dear ", "free ", "twdkis", "<=>"]
/-! WHAT IS LOOKED UP ONCE: each row is the bytecode's, its words are the tables' -/
def xq_rp (rows : List (List xq_Row)) (n : Nat) : Nat := match xq_at rows n with
  | some (_, (pc, _, _), _, _) => pc
  | none => 0
def xq_el : Instr → Nat
  | .iload _ | .lload _ | .aload _ | .istore _ | .astore _ | .lstore _ | .bipush _ | .ldc _ | .newarray _ => 2
  | .sipush _ | .ldc_w _ | .ldc2_w _ | .iinc _ _ | .getfield _ | .putfield _ | .getstatic _ | .new _ | .goto _ | .ifCond _ _ | .if_icmp _ _ | .invokevirtual _ | .invokestatic _ | .invokespecial _ => 3
  | _ => 1
def xq_tm : Instr → Bool
  | .goto _ | .ireturn | .lreturn | .areturn | .return_ | .tableswitch _ _ _ _ | .lookupswitch _ _ => true
  | _ => false
def xq_ts : Instr → Bool
  | .tableswitch _ _ _ _ | .lookupswitch _ _ => true
  | _ => false
/-- the words that stay as they are -/
def lw_gd : List Jvm.Cond := lw_tbl.filter goodWord
def xq_wd (i : Nat) (c : Jvm.Cond) : Bool := decide (lw_tbl[i]? = some c) && goodWord c
def xq_isN : Jvm.Cond → Bool
  | .fieldLinkNest _ _ _ _ _ _ => true
  | .methodLinkNest _ _ _ _ => true
  | _ => false
/-- the words of nest mates -/
def lw_ns : List Jvm.Cond := lw_tbl.filter xq_isN
def xq_wn (i : Nat) (c : Jvm.Cond) : Bool := decide (lw_tbl[i]? = some c) && xq_isN c
def xq_sg (y : Nat) : xq_Sg := (xq_sgl.getD (y / 16) []).getD (y % 16) (⟨"", "", ""⟩, ⟨#[]⟩, 0, none, 0)
/-- the words of a call -/
def xq_okc (own : String) (idx : Nat) (inst : Bool) : List Nat → Bool
  | [y, n, bc, rci, kind, wi, w2, w3, w4, w5] =>
    (match xq_sg y with
      | (nm, bytes, ml, ret, bc') => Nat.beq bc bc' && Nat.ble ml 45 && decide (nm.cls ≠ "java/lang/invoke/MethodHandle" ∧ nm.cls ≠ "java/lang/invoke/VarHandle" ∧ (parseMethodDescriptor nm.desc).map (fun d => d.parameters.length) = some n) && xq_wd w4 (.code nm bytes ml ret) && xq_wd w5 (.initialized nm.cls) && xq_wd w2 (if inst then .instanceMethod nm else .static nm) &&
        (match kind with
        | 0 => xq_wd wi (.methodLink own idx nm) && xq_wd w3 (.selects nm.cls nm nm) && (match rci with | 99 => decide (nm.cls = "java/lang/String") | _ => decide ((xq_cl[rci]?).map (fun q => q.1) = some nm.cls))
        | 1 => xq_wd wi (.methodLink own idx nm)
        | 2 => xq_wn wi (.methodLinkNest own idx nm "PutBack")
        | 3 => xq_wn wi (.methodLinkNest own idx nm "PutBack") && decide (nm.name = "<init>" ∧ ret = none)
        | 4 => xq_wd wi (.methodLink own idx nm) && decide (nm.name = "<init>" ∧ ret = none)
        | _ => false))
  | _ => false
def xq_sof : List (String × Nat × String) := [("PutBack$Reader", 83, "limit"), ("PutBack$Reader", 84, "step"), ("PutBack$Reader", 85, "dear"), ("PutBack$Reader", 87, "free"), ("PutBack$Reader", 98, "twdkis"), ("PutBack$Reader", 104, "<=>"), ("PutBackModel", 131, "limit "), ("PutBackModel", 137, "step "), ("PutBackModel", 139, "dear "), ("PutBackModel", 113, "twdkis"), ("PutBackModel", 119, "<=>"), ("PutBackModel", 144, "free ")]
def xq_okf (own : String) (idx kind ci k wi : Nat) : Bool := match xq_cl[ci]? with
  | some (_, T, N) => Nat.blt k N && Nat.beq (xq_fk ci k) kind && xq_wd wi (.fieldLink own idx (T k).1 (T k).2.1 (T k).2.2.1)
  | none => false
def xq_okg (own : String) (idx kind ci k wi : Nat) : Bool := match kind with
  | 4 => xq_wd wi (.fieldLink own idx "java/lang/String" "coder" "B")
  | 5 => xq_wd wi (.fieldLink own idx "java/lang/String" "value" "[B")
  | _ => xq_okf own idx kind ci k wi
def xq_okq (own : String) (ini : Bool) (q : vw_C) (k fin : Nat) : Bool := match fin with
  | 0 => decide ((q.2.1 k).2.2.2 = false)
  | 1 => decide ((q.2.1 k).2.2.2 = true ∧ (q.2.1 k).1 = own) && ini
  | _ => false
def xq_okp (own : String) (idx : Nat) (ini : Bool) (kind ci k wi fin : Nat) : Bool := xq_okf own idx kind ci k wi && (match xq_cl[ci]? with
  | some q => xq_okq own ini q k fin
  | none => false)
def xq_oks (own : String) (idx k0 o wi nest : Nat) : Bool := match k0, o, nest with
  | 0, 1001, 0 => xq_wd wi (.fieldLink own idx "PutBack" "ABOVE" "[I")
  | 0, 1001, 1 => xq_wn wi (.fieldLinkNest own idx "PutBack" "ABOVE" "[I" "PutBack")
  | 0, 1002, 0 => xq_wd wi (.fieldLink own idx "PutBack" "BODIES" "[I")
  | 0, 1002, 1 => xq_wn wi (.fieldLinkNest own idx "PutBack" "BODIES" "[I" "PutBack")
  | 0, 1003, 0 => xq_wd wi (.fieldLink own idx "jdk/internal/util/Preconditions" "SIOOBE_FORMATTER" "Ljava/util/function/BiFunction;")
  | 1, _, 0 => xq_wd wi (.fieldLink own idx "java/lang/String" "COMPACT_STRINGS" "Z")
  | _, _, _ => false
def xq_okb (cc : ByteArray) (own : String) (ini : Bool) (rt : Option FieldType) (rp : Nat → Nat) : xq_Row → Bool
  | (.nop, _, _, _) => true
  | (ins, (pc, len, nxt), ax, vs) => decide (decode cc pc = .ok (ins, len)) && (xq_ts ins || Nat.beq len (xq_el ins)) && (xq_tm ins || Nat.beq (rp nxt) (pc + len)) && (match ins with
    | .bipush n => decide ((Int8.ofInt n).toInt32 = Int32.ofInt n ∧ -2147483648 ≤ n ∧ n ≤ 2147483647)
    | .sipush n => decide ((Int16.ofInt n).toInt32 = Int32.ofInt n ∧ -2147483648 ≤ n ∧ n ≤ 2147483647)
    | .iconst n => decide (-2147483648 ≤ n ∧ n ≤ 2147483647)
    | .iinc _ n => decide (-2147483648 ≤ n ∧ n ≤ 2147483647)
    | .lconst n => decide (vs = [(n.val : Int)])
    | .ldc idx => (match ax, vs with
      | [0, wi], [v] => xq_wd wi (.constant own idx (Int32.ofInt v)) && decide (-2147483648 ≤ v ∧ v ≤ 2147483647)
      | [1, i, j], [] => decide ((xq_sof[j]?).map (fun q => (q.1, q.2.1)) = some (own, idx) ∧ (xq_sof[j]?).map (fun q => q.2.2) = xq_stx[i]? ∧ i < 10)
      | _, _ => false)
    | .ldc_w idx => (match ax, vs with
      | [0, wi], [v] => xq_wd wi (.constant own idx (Int32.ofInt v)) && decide (-2147483648 ≤ v ∧ v ≤ 2147483647)
      | _, _ => false)
    | .ldc2_w idx => (match ax, vs with
      | [wi], [v] => xq_wd wi (.constantLong own idx (Int64.ofInt v)) && decide (-9223372036854775808 ≤ v ∧ v ≤ 9223372036854775807)
      | _, _ => false)
    | .getfield idx => (match ax, vs with
      | [kind, ci, k, wi], [kI] => decide (kI = (k : Int)) && xq_okg own idx kind ci k wi
      | _, _ => false)
    | .putfield idx => (match ax, vs with
      | [kind, ci, k, wi, fin], [kI] => decide (kI = (k : Int)) && xq_okp own idx ini kind ci k wi fin
      | _, _ => false)
    | .getstatic idx => (match ax with
      | [k0, o, wi, nest] => xq_oks own idx k0 o wi nest
      | _ => false)
    | .newarray t => (match ax with
      | [0] => decide (t = .int)
      | [1] => decide (t = .boolean)
      | _ => false)
    | .new idx => (match ax with
      | [ci, w1, w2, w3] => (match xq_cl[ci]? with
        | some (C, _, N) => xq_wd w1 (.classLink own idx C) && xq_wd w2 (.instantiable C N) && xq_wd w3 (.initialized C)
        | none => false)
      | _ => false)
    | .goto off => (match ax with | [t] => decide ((pc : Int) + off = (rp t : Int)) | _ => false)
    | .ifCond _ off => (match ax with | [t] => decide ((pc : Int) + off = (rp t : Int)) | _ => false)
    | .if_icmp _ off => (match ax with | [t] => decide ((pc : Int) + off = (rp t : Int)) | _ => false)
    | .tableswitch dflt lo hi offs => (match ax with
      | d :: ts => decide ((pc : Int) + dflt = (rp d : Int) ∧ ts.map (fun t => (rp t : Int)) = offs.toList.map (fun o => (pc : Int) + o) ∧ vs = (List.range offs.size).map (fun j : Nat => lo + (j : Int)) ∧ (offs.size : Int) = hi - lo + 1)
      | _ => false)
    | .lookupswitch dflt ps => (match ax with
      | d :: ts => decide ((pc : Int) + dflt = (rp d : Int) ∧ ts.map (fun t => (rp t : Int)) = ps.toList.map (fun q => (pc : Int) + q.2) ∧ vs = ps.toList.map (fun q => q.1) ∧ (ps.toList.zip (ps.toList.drop 1)).all (fun (a, next) => a.1 < next.1) = true)
      | _ => false)
    | .invokevirtual idx => xq_okc own idx true ax && (match ax with | [_, _, _, _, 0, _, _, _, _, _] => true | _ => false)
    | .invokestatic idx => xq_okc own idx false ax && (match ax with | [_, _, _, _, 1, _, _, _, _, _] => true | [_, _, _, _, 2, _, _, _, _, _] => true | _ => false)
    | .invokespecial idx => (match ax with
      | [wi] => xq_wd wi (.methodLink own idx objectInit)
      | [_, _, _, _, 3, _, _, _, _, _] => xq_okc own idx true ax
      | [_, _, _, _, 4, _, _, _, _, _] => xq_okc own idx true ax
      | _ => false)
    | .ireturn => (match ax with
      | [0] => decide (rt = some .int)
      | [1] => decide (rt = some .boolean)
      | [2] => decide (rt = some .char)
      | [3] => decide (rt = some .byte)
      | _ => false)
    | .lreturn => decide (rt = some .long)
    | .areturn => (match rt with | some (.object _) => true | some (.array _) => true | _ => false)
    | .return_ => decide (rt = none)
    | _ => true)
def xq_okM (cc : ByteArray) (own : String) (ini : Bool) (rt : Option FieldType) (rows : List (List xq_Row)) : Bool := rows.all (fun ch => ch.all (xq_okb cc own ini rt (xq_rp rows)))

theorem ok_W_begins : xq_okM prog_10_method_5_code "PutBack$Words" false (Option.some Jvm.ClassFile.FieldType.boolean) rw_W_begins = true := by decide +kernel
theorem ok_W_aheadOf : xq_okM prog_10_method_6_code "PutBack$Words" false (Option.some Jvm.ClassFile.FieldType.int) rw_W_aheadOf = true := by decide +kernel
theorem ok_W_copy : xq_okM prog_10_method_7_code "PutBack$Words" false (Option.none : Option Jvm.ClassFile.FieldType) rw_W_copy = true := by decide +kernel
theorem ok_X_init : xq_okM prog_1_method_1_code "PutBack" true (Option.none : Option Jvm.ClassFile.FieldType) rw_X_init = true := by decide +kernel
theorem ok_X_feed : xq_okM prog_1_method_2_code "PutBack" false (Option.some Jvm.ClassFile.FieldType.int) rw_X_feed = true := by decide +kernel
theorem ok_X_telephone : xq_okM prog_1_method_3_code "PutBack" false (Option.some Jvm.ClassFile.FieldType.int) rw_X_telephone = true := by decide +kernel
theorem ok_X_word : xq_okM prog_1_method_4_code "PutBack" false (Option.some Jvm.ClassFile.FieldType.int) rw_X_word = true := by decide +kernel
theorem ok_X_listed : xq_okM prog_1_method_5_code "PutBack" false (Option.some Jvm.ClassFile.FieldType.int) rw_X_listed = true := by decide +kernel
theorem ok_X_weigh : xq_okM prog_1_method_6_code "PutBack" false (Option.some Jvm.ClassFile.FieldType.int) rw_X_weigh = true := by decide +kernel
theorem ok_X_behind : xq_okM prog_1_method_7_code "PutBack" false (Option.some Jvm.ClassFile.FieldType.int) rw_X_behind = true := by decide +kernel
theorem ok_X_mender : xq_okM prog_1_method_8_code "PutBack" false (Option.some Jvm.ClassFile.FieldType.int) rw_X_mender = true := by decide +kernel
theorem ok_X_of : xq_okM prog_1_method_9_code "PutBack" false (Option.some Jvm.ClassFile.FieldType.int) rw_X_of = true := by decide +kernel
theorem ok_X_row : xq_okM prog_1_method_10_code "PutBack" false (Option.some Jvm.ClassFile.FieldType.int) rw_X_row = true := by decide +kernel
theorem ok_X_type : xq_okM prog_1_method_11_code "PutBack" false (Option.some Jvm.ClassFile.FieldType.int) rw_X_type = true := by decide +kernel
theorem ok_X_back : xq_okM prog_1_method_12_code "PutBack" false (Option.some Jvm.ClassFile.FieldType.int) rw_X_back = true := by decide +kernel
theorem ok_X_send : xq_okM prog_1_method_13_code "PutBack" false (Option.some Jvm.ClassFile.FieldType.int) rw_X_send = true := by decide +kernel
theorem ok_X_told : xq_okM prog_1_method_14_code "PutBack" false (Option.some Jvm.ClassFile.FieldType.int) rw_X_told = true := by decide +kernel
theorem ok_X_makes : xq_okM prog_1_method_15_code "PutBack" false (Option.some Jvm.ClassFile.FieldType.int) rw_X_makes = true := by decide +kernel
theorem ok_X_cost : xq_okM prog_1_method_16_code "PutBack" false (Option.some Jvm.ClassFile.FieldType.int) rw_X_cost = true := by decide +kernel
theorem ok_X_stays : xq_okM prog_1_method_17_code "PutBack" false (Option.some Jvm.ClassFile.FieldType.int) rw_X_stays = true := by decide +kernel
theorem ok_X_touches : xq_okM prog_1_method_18_code "PutBack" false (Option.some Jvm.ClassFile.FieldType.int) rw_X_touches = true := by decide +kernel
theorem ok_X_never : xq_okM prog_1_method_19_code "PutBack" false (Option.some Jvm.ClassFile.FieldType.int) rw_X_never = true := by decide +kernel
theorem ok_X_round : xq_okM prog_1_method_20_code "PutBack" false (Option.some Jvm.ClassFile.FieldType.int) rw_X_round = true := by decide +kernel
theorem ok_X_stands : xq_okM prog_1_method_21_code "PutBack" false (Option.some Jvm.ClassFile.FieldType.int) rw_X_stands = true := by decide +kernel
theorem ok_X_guess : xq_okM prog_1_method_22_code "PutBack" false (Option.some Jvm.ClassFile.FieldType.int) rw_X_guess = true := by decide +kernel
theorem ok_X_letter : xq_okM prog_1_method_23_code "PutBack" false (Option.some Jvm.ClassFile.FieldType.int) rw_X_letter = true := by decide +kernel
theorem ok_X_enough : xq_okM prog_1_method_24_code "PutBack" false (Option.some Jvm.ClassFile.FieldType.int) rw_X_enough = true := by decide +kernel
theorem ok_X_slips : xq_okM prog_1_method_25_code "PutBack" false (Option.some Jvm.ClassFile.FieldType.long) rw_X_slips = true := by decide +kernel
theorem ok_X_wrong : xq_okM prog_1_method_26_code "PutBack" false (Option.some Jvm.ClassFile.FieldType.long) rw_X_wrong = true := by decide +kernel
theorem ok_X_chain : xq_okM prog_1_method_27_code "PutBack" false (Option.some Jvm.ClassFile.FieldType.int) rw_X_chain = true := by decide +kernel
theorem ok_X_meant : xq_okM prog_1_method_28_code "PutBack" false (Option.some Jvm.ClassFile.FieldType.int) rw_X_meant = true := by decide +kernel
theorem ok_X_likeliest : xq_okM prog_1_method_29_code "PutBack" false (Option.some Jvm.ClassFile.FieldType.int) rw_X_likeliest = true := by decide +kernel
theorem ok_X_who : xq_okM prog_1_method_30_code "PutBack" false (Option.some Jvm.ClassFile.FieldType.int) rw_X_who = true := by decide +kernel
theorem ok_X_twins : xq_okM prog_1_method_31_code "PutBack" false (Option.some Jvm.ClassFile.FieldType.int) rw_X_twins = true := by decide +kernel
theorem ok_X_room : xq_okM prog_1_method_32_code "PutBack" false (Option.some Jvm.ClassFile.FieldType.int) rw_X_room = true := by decide +kernel
theorem ok_X_saved : xq_okM prog_1_method_33_code "PutBack" false (Option.some Jvm.ClassFile.FieldType.int) rw_X_saved = true := by decide +kernel
theorem ok_X_book : xq_okM prog_1_method_34_code "PutBack" false (Option.some Jvm.ClassFile.FieldType.int) rw_X_book = true := by decide +kernel
theorem ok_X_looked : xq_okM prog_1_method_35_code "PutBack" false (Option.some Jvm.ClassFile.FieldType.int) rw_X_looked = true := by decide +kernel
theorem ok_X_act : xq_okM prog_1_method_36_code "PutBack" false (Option.some Jvm.ClassFile.FieldType.int) rw_X_act = true := by decide +kernel
theorem ok_X_trace : xq_okM prog_1_method_37_code "PutBack" false (Option.some Jvm.ClassFile.FieldType.int) rw_X_trace = true := by decide +kernel
theorem ok_X_as : xq_okM prog_1_method_38_code "PutBack" false (Option.some Jvm.ClassFile.FieldType.int) rw_X_as = true := by decide +kernel
theorem ok_X_image : xq_okM prog_1_method_39_code "PutBack" false (Option.some Jvm.ClassFile.FieldType.int) rw_X_image = true := by decide +kernel
theorem ok_X_undo : xq_okM prog_1_method_40_code "PutBack" false (Option.some Jvm.ClassFile.FieldType.int) rw_X_undo = true := by decide +kernel
theorem ok_X_count : xq_okM prog_1_method_41_code "PutBack" false (Option.some Jvm.ClassFile.FieldType.int) rw_X_count = true := by decide +kernel
theorem ok_X_refusalOf : xq_okM prog_1_method_42_code "PutBack" false (Option.some Jvm.ClassFile.FieldType.int) rw_X_refusalOf = true := by decide +kernel
theorem ok_X_staysOne : xq_okM prog_1_method_43_code "PutBack" false (Option.some Jvm.ClassFile.FieldType.boolean) rw_X_staysOne = true := by decide +kernel
theorem ok_X_wayTo : xq_okM prog_1_method_44_code "PutBack" false (Option.some Jvm.ClassFile.FieldType.int) rw_X_wayTo = true := by decide +kernel
theorem ok_X_shortWays : xq_okM prog_1_method_45_code "PutBack" false (Option.some Jvm.ClassFile.FieldType.int) rw_X_shortWays = true := by decide +kernel
theorem ok_X_runChain : xq_okM prog_1_method_46_code "PutBack" false (Option.some Jvm.ClassFile.FieldType.int) rw_X_runChain = true := by decide +kernel
theorem ok_X_waysFrom : xq_okM prog_1_method_47_code "PutBack" false (Option.some Jvm.ClassFile.FieldType.int) rw_X_waysFrom = true := by decide +kernel
theorem ok_X_isAt : xq_okM prog_1_method_48_code "PutBack" false (Option.some Jvm.ClassFile.FieldType.boolean) rw_X_isAt = true := by decide +kernel
theorem ok_X_copyInts : xq_okM prog_1_method_49_code "PutBack" false (Option.none : Option Jvm.ClassFile.FieldType) rw_X_copyInts = true := by decide +kernel
theorem ok_X_unlikeOf : xq_okM prog_1_method_50_code "PutBack" false (Option.some Jvm.ClassFile.FieldType.int) rw_X_unlikeOf = true := by decide +kernel
theorem ok_X_isUnder : xq_okM prog_1_method_51_code "PutBack" false (Option.some Jvm.ClassFile.FieldType.boolean) rw_X_isUnder = true := by decide +kernel
theorem ok_X_isWord : xq_okM prog_1_method_52_code "PutBack" false (Option.some Jvm.ClassFile.FieldType.boolean) rw_X_isWord = true := by decide +kernel
theorem ok_X_lettersOf : xq_okM prog_1_method_53_code "PutBack" false (Option.some Jvm.ClassFile.FieldType.int) rw_X_lettersOf = true := by decide +kernel
theorem ok_X_withoutLast : xq_okM prog_1_method_54_code "PutBack" false (Option.some Jvm.ClassFile.FieldType.int) rw_X_withoutLast = true := by decide +kernel
theorem ok_X_isNear : xq_okM prog_1_method_55_code "PutBack" false (Option.some Jvm.ClassFile.FieldType.boolean) rw_X_isNear = true := by decide +kernel
theorem ok_X_slipsOf : xq_okM prog_1_method_56_code "PutBack" false (Option.some Jvm.ClassFile.FieldType.int) rw_X_slipsOf = true := by decide +kernel
theorem ok_X_partOf : xq_okM prog_1_method_57_code "PutBack" false (Option.some Jvm.ClassFile.FieldType.long) rw_X_partOf = true := by decide +kernel
theorem ok_M_init : xq_okM prog_12_method_1_code "PutBackModel" true (Option.none : Option Jvm.ClassFile.FieldType) rw_M_init = true := by decide +kernel
theorem ok_M_in : xq_okM prog_12_method_3_code "PutBackModel" false (Option.some Jvm.ClassFile.FieldType.boolean) rw_M_in = true := by decide +kernel
theorem ok_M_isMender : xq_okM prog_12_method_4_code "PutBackModel" false (Option.some Jvm.ClassFile.FieldType.boolean) rw_M_isMender = true := by decide +kernel
theorem ok_M_isListed : xq_okM prog_12_method_5_code "PutBackModel" false (Option.some Jvm.ClassFile.FieldType.boolean) rw_M_isListed = true := by decide +kernel
theorem ok_M_isWord : xq_okM prog_12_method_6_code "PutBackModel" false (Option.some Jvm.ClassFile.FieldType.boolean) rw_M_isWord = true := by decide +kernel
theorem ok_M_size : xq_okM prog_12_method_7_code "PutBackModel" false (Option.some Jvm.ClassFile.FieldType.int) rw_M_size = true := by decide +kernel
theorem ok_M_first : xq_okM prog_12_method_8_code "PutBackModel" false (Option.some Jvm.ClassFile.FieldType.int) rw_M_first = true := by decide +kernel
theorem ok_M_keeps : xq_okM prog_12_method_9_code "PutBackModel" false (Option.none : Option Jvm.ClassFile.FieldType) rw_M_keeps = true := by decide +kernel
theorem ok_M_goesBack : xq_okM prog_12_method_10_code "PutBackModel" false (Option.none : Option Jvm.ClassFile.FieldType) rw_M_goesBack = true := by decide +kernel
theorem ok_M_feed : xq_okM prog_12_method_11_code "PutBackModel" false (Option.some Jvm.ClassFile.FieldType.int) rw_M_feed = true := by decide +kernel
theorem ok_M_here : xq_okM prog_12_method_12_code "PutBackModel" false (Option.some Jvm.ClassFile.FieldType.int) rw_M_here = true := by decide +kernel
theorem ok_M_must : xq_okM prog_12_method_13_code "PutBackModel" false (Option.none : Option Jvm.ClassFile.FieldType) rw_M_must = true := by decide +kernel
theorem ok_M_spells : xq_okM prog_12_method_14_code "PutBackModel" false (Option.none : Option Jvm.ClassFile.FieldType) rw_M_spells = true := by decide +kernel
theorem ok_M_figures : xq_okM prog_12_method_15_code "PutBackModel" false (Option.some Jvm.ClassFile.FieldType.int) rw_M_figures = true := by decide +kernel
theorem ok_M_among : xq_okM prog_12_method_16_code "PutBackModel" false (Option.some Jvm.ClassFile.FieldType.int) rw_M_among = true := by decide +kernel
theorem ok_M_emits : xq_okM prog_12_method_17_code "PutBackModel" false (Option.none : Option Jvm.ClassFile.FieldType) rw_M_emits = true := by decide +kernel
theorem ok_M_factor : xq_okM prog_12_method_18_code "PutBackModel" false (Option.none : Option Jvm.ClassFile.FieldType) rw_M_factor = true := by decide +kernel

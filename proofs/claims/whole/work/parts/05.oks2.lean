theorem ok_M_every : xq_okM prog_12_method_19_code "PutBackModel" false (Option.none : Option Jvm.ClassFile.FieldType) rw_M_every = true := by decide +kernel
theorem ok_M_some : xq_okM prog_12_method_20_code "PutBackModel" false (Option.none : Option Jvm.ClassFile.FieldType) rw_M_some = true := by decide +kernel
theorem ok_M_much : xq_okM prog_12_method_21_code "PutBackModel" false (Option.none : Option Jvm.ClassFile.FieldType) rw_M_much = true := by decide +kernel
theorem ok_M_tellsHere : xq_okM prog_12_method_22_code "PutBackModel" false (Option.none : Option Jvm.ClassFile.FieldType) rw_M_tellsHere = true := by decide +kernel
theorem ok_M_clauseHere : xq_okM prog_12_method_23_code "PutBackModel" false (Option.none : Option Jvm.ClassFile.FieldType) rw_M_clauseHere = true := by decide +kernel
theorem ok_M_telephone : xq_okM prog_12_method_24_code "PutBackModel" false (Option.some Jvm.ClassFile.FieldType.int) rw_M_telephone = true := by decide +kernel
theorem ok_M_tellsOf : xq_okM prog_12_method_25_code "PutBackModel" false (Option.some Jvm.ClassFile.FieldType.int) rw_M_tellsOf = true := by decide +kernel
theorem ok_M_looks : xq_okM prog_12_method_26_code "PutBackModel" false (Option.some Jvm.ClassFile.FieldType.int) rw_M_looks = true := by decide +kernel
theorem ok_M_indexOf : xq_okM prog_12_method_27_code "PutBackModel" false (Option.some Jvm.ClassFile.FieldType.int) rw_M_indexOf = true := by decide +kernel
theorem ok_M_word : xq_okM prog_12_method_28_code "PutBackModel" false (Option.some Jvm.ClassFile.FieldType.int) rw_M_word = true := by decide +kernel
theorem ok_M_listed : xq_okM prog_12_method_29_code "PutBackModel" false (Option.some Jvm.ClassFile.FieldType.int) rw_M_listed = true := by decide +kernel
theorem ok_M_weigh : xq_okM prog_12_method_30_code "PutBackModel" false (Option.some Jvm.ClassFile.FieldType.int) rw_M_weigh = true := by decide +kernel
theorem ok_M_behind : xq_okM prog_12_method_31_code "PutBackModel" false (Option.some Jvm.ClassFile.FieldType.int) rw_M_behind = true := by decide +kernel
theorem ok_M_mender : xq_okM prog_12_method_32_code "PutBackModel" false (Option.some Jvm.ClassFile.FieldType.int) rw_M_mender = true := by decide +kernel
theorem ok_M_of : xq_okM prog_12_method_33_code "PutBackModel" false (Option.some Jvm.ClassFile.FieldType.int) rw_M_of = true := by decide +kernel
theorem ok_M_row : xq_okM prog_12_method_34_code "PutBackModel" false (Option.some Jvm.ClassFile.FieldType.int) rw_M_row = true := by decide +kernel
theorem ok_M_areNear : xq_okM prog_12_method_35_code "PutBackModel" false (Option.some Jvm.ClassFile.FieldType.boolean) rw_M_areNear = true := by decide +kernel
theorem ok_M_spellsInto : xq_okM prog_12_method_36_code "PutBackModel" false (Option.none : Option Jvm.ClassFile.FieldType) rw_M_spellsInto = true := by decide +kernel
theorem ok_M_lesser : xq_okM prog_12_method_37_code "PutBackModel" false (Option.some Jvm.ClassFile.FieldType.int) rw_M_lesser = true := by decide +kernel
theorem ok_M_changes : xq_okM prog_12_method_38_code "PutBackModel" false (Option.some Jvm.ClassFile.FieldType.int) rw_M_changes = true := by decide +kernel
theorem ok_M_farOf : xq_okM prog_12_method_39_code "PutBackModel" false (Option.some Jvm.ClassFile.FieldType.int) rw_M_farOf = true := by decide +kernel
theorem ok_M_looksFor : xq_okM prog_12_method_40_code "PutBackModel" false (Option.none : Option Jvm.ClassFile.FieldType) rw_M_looksFor = true := by decide +kernel
theorem ok_M_costOf : xq_okM prog_12_method_41_code "PutBackModel" false (Option.some Jvm.ClassFile.FieldType.int) rw_M_costOf = true := by decide +kernel
theorem ok_M_isLeft : xq_okM prog_12_method_42_code "PutBackModel" false (Option.some Jvm.ClassFile.FieldType.boolean) rw_M_isLeft = true := by decide +kernel
theorem ok_M_madeOf : xq_okM prog_12_method_43_code "PutBackModel" false (Option.some Jvm.ClassFile.FieldType.int) rw_M_madeOf = true := by decide +kernel
theorem ok_M_makesOf : xq_okM prog_12_method_44_code "PutBackModel" false (Option.some Jvm.ClassFile.FieldType.int) rw_M_makesOf = true := by decide +kernel
theorem ok_M_types : xq_okM prog_12_method_45_code "PutBackModel" false (Option.some Jvm.ClassFile.FieldType.int) rw_M_types = true := by decide +kernel
theorem ok_M_type : xq_okM prog_12_method_46_code "PutBackModel" false (Option.some Jvm.ClassFile.FieldType.int) rw_M_type = true := by decide +kernel
theorem ok_M_back : xq_okM prog_12_method_47_code "PutBackModel" false (Option.some Jvm.ClassFile.FieldType.int) rw_M_back = true := by decide +kernel
theorem ok_M_send : xq_okM prog_12_method_48_code "PutBackModel" false (Option.some Jvm.ClassFile.FieldType.int) rw_M_send = true := by decide +kernel
theorem ok_M_told : xq_okM prog_12_method_49_code "PutBackModel" false (Option.some Jvm.ClassFile.FieldType.int) rw_M_told = true := by decide +kernel
theorem ok_M_makes : xq_okM prog_12_method_50_code "PutBackModel" false (Option.some Jvm.ClassFile.FieldType.int) rw_M_makes = true := by decide +kernel
theorem ok_M_cost : xq_okM prog_12_method_51_code "PutBackModel" false (Option.some Jvm.ClassFile.FieldType.int) rw_M_cost = true := by decide +kernel
theorem ok_M_staysOf : xq_okM prog_12_method_52_code "PutBackModel" false (Option.some Jvm.ClassFile.FieldType.int) rw_M_staysOf = true := by decide +kernel
theorem ok_M_stays : xq_okM prog_12_method_53_code "PutBackModel" false (Option.some Jvm.ClassFile.FieldType.int) rw_M_stays = true := by decide +kernel
theorem ok_M_looksForShort : xq_okM prog_12_method_54_code "PutBackModel" false (Option.none : Option Jvm.ClassFile.FieldType) rw_M_looksForShort = true := by decide +kernel
theorem ok_M_looksForTouches : xq_okM prog_12_method_55_code "PutBackModel" false (Option.none : Option Jvm.ClassFile.FieldType) rw_M_looksForTouches = true := by decide +kernel
theorem ok_M_touches : xq_okM prog_12_method_56_code "PutBackModel" false (Option.some Jvm.ClassFile.FieldType.int) rw_M_touches = true := by decide +kernel
theorem ok_M_never : xq_okM prog_12_method_57_code "PutBackModel" false (Option.some Jvm.ClassFile.FieldType.int) rw_M_never = true := by decide +kernel
theorem ok_M_round : xq_okM prog_12_method_58_code "PutBackModel" false (Option.some Jvm.ClassFile.FieldType.int) rw_M_round = true := by decide +kernel
theorem ok_M_stands : xq_okM prog_12_method_59_code "PutBackModel" false (Option.some Jvm.ClassFile.FieldType.int) rw_M_stands = true := by decide +kernel
theorem ok_M_begins : xq_okM prog_12_method_60_code "PutBackModel" false (Option.some Jvm.ClassFile.FieldType.boolean) rw_M_begins = true := by decide +kernel
theorem ok_M_aheadOf : xq_okM prog_12_method_61_code "PutBackModel" false (Option.some Jvm.ClassFile.FieldType.int) rw_M_aheadOf = true := by decide +kernel
theorem ok_M_guess : xq_okM prog_12_method_62_code "PutBackModel" false (Option.some Jvm.ClassFile.FieldType.int) rw_M_guess = true := by decide +kernel
theorem ok_M_letter : xq_okM prog_12_method_63_code "PutBackModel" false (Option.some Jvm.ClassFile.FieldType.int) rw_M_letter = true := by decide +kernel
theorem ok_M_enough : xq_okM prog_12_method_64_code "PutBackModel" false (Option.some Jvm.ClassFile.FieldType.int) rw_M_enough = true := by decide +kernel
theorem ok_M_slipsFrom : xq_okM prog_12_method_65_code "PutBackModel" false (Option.none : Option Jvm.ClassFile.FieldType) rw_M_slipsFrom = true := by decide +kernel
theorem ok_M_lowest : xq_okM prog_12_method_66_code "PutBackModel" false (Option.some Jvm.ClassFile.FieldType.long) rw_M_lowest = true := by decide +kernel
theorem ok_M_slips : xq_okM prog_12_method_67_code "PutBackModel" false (Option.some Jvm.ClassFile.FieldType.long) rw_M_slips = true := by decide +kernel
theorem ok_M_count1 : xq_okM prog_12_method_68_code "PutBackModel" false (Option.some Jvm.ClassFile.FieldType.int) rw_M_count1 = true := by decide +kernel
theorem ok_M_wrong : xq_okM prog_12_method_69_code "PutBackModel" false (Option.some Jvm.ClassFile.FieldType.long) rw_M_wrong = true := by decide +kernel
theorem ok_M_unlike : xq_okM prog_12_method_70_code "PutBackModel" false (Option.some Jvm.ClassFile.FieldType.int) rw_M_unlike = true := by decide +kernel
theorem ok_M_goesRound : xq_okM prog_12_method_71_code "PutBackModel" false (Option.some Jvm.ClassFile.FieldType.boolean) rw_M_goesRound = true := by decide +kernel
theorem ok_M_chain : xq_okM prog_12_method_72_code "PutBackModel" false (Option.some Jvm.ClassFile.FieldType.int) rw_M_chain = true := by decide +kernel
theorem ok_M_waysOf : xq_okM prog_12_method_73_code "PutBackModel" false (Option.some Jvm.ClassFile.FieldType.int) rw_M_waysOf = true := by decide +kernel
theorem ok_M_meant : xq_okM prog_12_method_74_code "PutBackModel" false (Option.some Jvm.ClassFile.FieldType.int) rw_M_meant = true := by decide +kernel
theorem ok_M_likeliest : xq_okM prog_12_method_75_code "PutBackModel" false (Option.some Jvm.ClassFile.FieldType.int) rw_M_likeliest = true := by decide +kernel
theorem ok_M_who : xq_okM prog_12_method_76_code "PutBackModel" false (Option.some Jvm.ClassFile.FieldType.int) rw_M_who = true := by decide +kernel
theorem ok_M_twins : xq_okM prog_12_method_77_code "PutBackModel" false (Option.some Jvm.ClassFile.FieldType.int) rw_M_twins = true := by decide +kernel
theorem ok_M_room : xq_okM prog_12_method_78_code "PutBackModel" false (Option.some Jvm.ClassFile.FieldType.int) rw_M_room = true := by decide +kernel
theorem ok_M_saved : xq_okM prog_12_method_79_code "PutBackModel" false (Option.some Jvm.ClassFile.FieldType.int) rw_M_saved = true := by decide +kernel
theorem ok_M_book : xq_okM prog_12_method_80_code "PutBackModel" false (Option.some Jvm.ClassFile.FieldType.int) rw_M_book = true := by decide +kernel
theorem ok_M_looked : xq_okM prog_12_method_81_code "PutBackModel" false (Option.some Jvm.ClassFile.FieldType.int) rw_M_looked = true := by decide +kernel
theorem ok_M_ranBody : xq_okM prog_12_method_82_code "PutBackModel" false (Option.none : Option Jvm.ClassFile.FieldType) rw_M_ranBody = true := by decide +kernel
theorem ok_M_isUnder : xq_okM prog_12_method_83_code "PutBackModel" false (Option.some Jvm.ClassFile.FieldType.boolean) rw_M_isUnder = true := by decide +kernel
theorem ok_M_plainMends : xq_okM prog_12_method_84_code "PutBackModel" false (Option.some Jvm.ClassFile.FieldType.int) rw_M_plainMends = true := by decide +kernel
theorem ok_M_mendsActs : xq_okM prog_12_method_85_code "PutBackModel" false (Option.some Jvm.ClassFile.FieldType.int) rw_M_mendsActs = true := by decide +kernel
theorem ok_M_plainLeaves : xq_okM prog_12_method_86_code "PutBackModel" false (Option.some Jvm.ClassFile.FieldType.int) rw_M_plainLeaves = true := by decide +kernel
theorem ok_M_leavesActs : xq_okM prog_12_method_87_code "PutBackModel" false (Option.some Jvm.ClassFile.FieldType.int) rw_M_leavesActs = true := by decide +kernel
theorem ok_M_plainTells : xq_okM prog_12_method_88_code "PutBackModel" false (Option.some Jvm.ClassFile.FieldType.int) rw_M_plainTells = true := by decide +kernel
theorem ok_M_tellsActs : xq_okM prog_12_method_89_code "PutBackModel" false (Option.some Jvm.ClassFile.FieldType.int) rw_M_tellsActs = true := by decide +kernel
theorem ok_M_act : xq_okM prog_12_method_90_code "PutBackModel" false (Option.some Jvm.ClassFile.FieldType.int) rw_M_act = true := by decide +kernel
theorem ok_M_trace : xq_okM prog_12_method_91_code "PutBackModel" false (Option.some Jvm.ClassFile.FieldType.int) rw_M_trace = true := by decide +kernel
theorem ok_M_as : xq_okM prog_12_method_92_code "PutBackModel" false (Option.some Jvm.ClassFile.FieldType.int) rw_M_as = true := by decide +kernel
theorem ok_M_image : xq_okM prog_12_method_93_code "PutBackModel" false (Option.some Jvm.ClassFile.FieldType.int) rw_M_image = true := by decide +kernel
theorem ok_M_undo : xq_okM prog_12_method_94_code "PutBackModel" false (Option.some Jvm.ClassFile.FieldType.int) rw_M_undo = true := by decide +kernel
theorem ok_M_count : xq_okM prog_12_method_95_code "PutBackModel" false (Option.some Jvm.ClassFile.FieldType.int) rw_M_count = true := by decide +kernel

theorem okc_46 : rw_L_law_c46.all (xq_okb code "PutBackLaw" false ret (xq_rp rw_L_law)) = true := by decide +kernel
theorem okc_47 : rw_L_law_c47.all (xq_okb code "PutBackLaw" false ret (xq_rp rw_L_law)) = true := by decide +kernel
theorem okc_48 : rw_L_law_c48.all (xq_okb code "PutBackLaw" false ret (xq_rp rw_L_law)) = true := by decide +kernel
theorem okc_49 : rw_L_law_c49.all (xq_okb code "PutBackLaw" false ret (xq_rp rw_L_law)) = true := by decide +kernel
theorem okc_50 : rw_L_law_c50.all (xq_okb code "PutBackLaw" false ret (xq_rp rw_L_law)) = true := by decide +kernel
theorem okc_51 : rw_L_law_c51.all (xq_okb code "PutBackLaw" false ret (xq_rp rw_L_law)) = true := by decide +kernel
theorem okc_52 : rw_L_law_c52.all (xq_okb code "PutBackLaw" false ret (xq_rp rw_L_law)) = true := by decide +kernel
theorem okc_53 : rw_L_law_c53.all (xq_okb code "PutBackLaw" false ret (xq_rp rw_L_law)) = true := by decide +kernel
theorem okc_54 : rw_L_law_c54.all (xq_okb code "PutBackLaw" false ret (xq_rp rw_L_law)) = true := by decide +kernel
theorem okc_55 : rw_L_law_c55.all (xq_okb code "PutBackLaw" false ret (xq_rp rw_L_law)) = true := by decide +kernel
theorem okc_56 : rw_L_law_c56.all (xq_okb code "PutBackLaw" false ret (xq_rp rw_L_law)) = true := by decide +kernel
theorem okc_57 : rw_L_law_c57.all (xq_okb code "PutBackLaw" false ret (xq_rp rw_L_law)) = true := by decide +kernel
theorem okc_58 : rw_L_law_c58.all (xq_okb code "PutBackLaw" false ret (xq_rp rw_L_law)) = true := by decide +kernel
theorem okc_59 : rw_L_law_c59.all (xq_okb code "PutBackLaw" false ret (xq_rp rw_L_law)) = true := by decide +kernel
theorem okc_60 : rw_L_law_c60.all (xq_okb code "PutBackLaw" false ret (xq_rp rw_L_law)) = true := by decide +kernel
theorem okc_61 : rw_L_law_c61.all (xq_okb code "PutBackLaw" false ret (xq_rp rw_L_law)) = true := by decide +kernel
theorem ok_L_law : xq_okM code "PutBackLaw" false ret rw_L_law = true := by
  show ([rw_L_law_c0, rw_L_law_c1, rw_L_law_c2, rw_L_law_c3, rw_L_law_c4, rw_L_law_c5, rw_L_law_c6, rw_L_law_c7, rw_L_law_c8, rw_L_law_c9, rw_L_law_c10, rw_L_law_c11, rw_L_law_c12, rw_L_law_c13, rw_L_law_c14, rw_L_law_c15, rw_L_law_c16, rw_L_law_c17, rw_L_law_c18, rw_L_law_c19, rw_L_law_c20, rw_L_law_c21, rw_L_law_c22, rw_L_law_c23, rw_L_law_c24, rw_L_law_c25, rw_L_law_c26, rw_L_law_c27, rw_L_law_c28, rw_L_law_c29, rw_L_law_c30, rw_L_law_c31, rw_L_law_c32, rw_L_law_c33, rw_L_law_c34, rw_L_law_c35, rw_L_law_c36, rw_L_law_c37, rw_L_law_c38, rw_L_law_c39, rw_L_law_c40, rw_L_law_c41, rw_L_law_c42, rw_L_law_c43, rw_L_law_c44, rw_L_law_c45, rw_L_law_c46, rw_L_law_c47, rw_L_law_c48, rw_L_law_c49, rw_L_law_c50, rw_L_law_c51, rw_L_law_c52, rw_L_law_c53, rw_L_law_c54, rw_L_law_c55, rw_L_law_c56, rw_L_law_c57, rw_L_law_c58, rw_L_law_c59, rw_L_law_c60, rw_L_law_c61] : List (List xq_Row)).all _ = true
  simp only [List.all_cons, List.all_nil, Bool.and_true, okc_0, okc_1, okc_2, okc_3, okc_4, okc_5, okc_6, okc_7, okc_8, okc_9, okc_10, okc_11, okc_12, okc_13, okc_14, okc_15, okc_16, okc_17, okc_18, okc_19, okc_20, okc_21, okc_22, okc_23, okc_24, okc_25, okc_26, okc_27, okc_28, okc_29, okc_30, okc_31, okc_32, okc_33, okc_34, okc_35, okc_36, okc_37, okc_38, okc_39, okc_40, okc_41, okc_42, okc_43, okc_44, okc_45, okc_46, okc_47, okc_48, okc_49, okc_50, okc_51, okc_52, okc_53, okc_54, okc_55, okc_56, okc_57, okc_58, okc_59, okc_60, okc_61]

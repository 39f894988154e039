/-! every row of every method's code is what the bytes say: by the kernel, a piece of forty rows at a time -/
set_option maxRecDepth 100000 in
theorem tb_kz_0 : tbc_0.all (tb_ckr 0) = true := by decide +kernel
theorem tb_ky_0 : tb_cky 0 = true := tb_kz_0
set_option maxRecDepth 100000 in
theorem tb_kz_1 : tbc_1.all (tb_ckr 1) = true := by decide +kernel
theorem tb_ky_1 : tb_cky 1 = true := tb_kz_1
set_option maxRecDepth 100000 in
theorem tb_kz_2 : tbc_2.all (tb_ckr 2) = true := by decide +kernel
theorem tb_ky_2 : tb_cky 2 = true := tb_kz_2
set_option maxRecDepth 100000 in
theorem tb_kz_3 : tbc_3.all (tb_ckr 3) = true := by decide +kernel
theorem tb_ky_3 : tb_cky 3 = true := tb_kz_3
set_option maxRecDepth 100000 in
theorem tb_kz_4_0 : tbc_4_0.all (tb_ckr 4) = true := by decide +kernel
set_option maxRecDepth 100000 in
theorem tb_kz_4_1 : tbc_4_1.all (tb_ckr 4) = true := by decide +kernel
theorem tb_ky_4 : tb_cky 4 = true := by
  show (tbc_4_0 ++ tbc_4_1).all (tb_ckr 4) = true
  simp only [List.all_append, tb_kz_4_0, tb_kz_4_1, Bool.and_self]
set_option maxRecDepth 100000 in
theorem tb_kz_5 : tbc_5.all (tb_ckr 5) = true := by decide +kernel
theorem tb_ky_5 : tb_cky 5 = true := tb_kz_5
set_option maxRecDepth 100000 in
theorem tb_kz_6 : tbc_6.all (tb_ckr 6) = true := by decide +kernel
theorem tb_ky_6 : tb_cky 6 = true := tb_kz_6
set_option maxRecDepth 100000 in
theorem tb_kz_7_0 : tbc_7_0.all (tb_ckr 7) = true := by decide +kernel
set_option maxRecDepth 100000 in
theorem tb_kz_7_1 : tbc_7_1.all (tb_ckr 7) = true := by decide +kernel
theorem tb_ky_7 : tb_cky 7 = true := by
  show (tbc_7_0 ++ tbc_7_1).all (tb_ckr 7) = true
  simp only [List.all_append, tb_kz_7_0, tb_kz_7_1, Bool.and_self]
set_option maxRecDepth 100000 in
theorem tb_kz_8 : tbc_8.all (tb_ckr 8) = true := by decide +kernel
theorem tb_ky_8 : tb_cky 8 = true := tb_kz_8
set_option maxRecDepth 100000 in
theorem tb_kz_9 : tbc_9.all (tb_ckr 9) = true := by decide +kernel
theorem tb_ky_9 : tb_cky 9 = true := tb_kz_9
set_option maxRecDepth 100000 in
theorem tb_kz_10_0 : tbc_10_0.all (tb_ckr 10) = true := by decide +kernel
set_option maxRecDepth 100000 in
theorem tb_kz_10_1 : tbc_10_1.all (tb_ckr 10) = true := by decide +kernel
theorem tb_ky_10 : tb_cky 10 = true := by
  show (tbc_10_0 ++ tbc_10_1).all (tb_ckr 10) = true
  simp only [List.all_append, tb_kz_10_0, tb_kz_10_1, Bool.and_self]
set_option maxRecDepth 100000 in
theorem tb_kz_11 : tbc_11.all (tb_ckr 11) = true := by decide +kernel
theorem tb_ky_11 : tb_cky 11 = true := tb_kz_11
set_option maxRecDepth 100000 in
theorem tb_kz_12 : tbc_12.all (tb_ckr 12) = true := by decide +kernel
theorem tb_ky_12 : tb_cky 12 = true := tb_kz_12
set_option maxRecDepth 100000 in
theorem tb_kz_13_0 : tbc_13_0.all (tb_ckr 13) = true := by decide +kernel
set_option maxRecDepth 100000 in
theorem tb_kz_13_1 : tbc_13_1.all (tb_ckr 13) = true := by decide +kernel
theorem tb_ky_13 : tb_cky 13 = true := by
  show (tbc_13_0 ++ tbc_13_1).all (tb_ckr 13) = true
  simp only [List.all_append, tb_kz_13_0, tb_kz_13_1, Bool.and_self]
set_option maxRecDepth 100000 in
theorem tb_kz_14 : tbc_14.all (tb_ckr 14) = true := by decide +kernel
theorem tb_ky_14 : tb_cky 14 = true := tb_kz_14
set_option maxRecDepth 100000 in
theorem tb_kz_15 : tbc_15.all (tb_ckr 15) = true := by decide +kernel
theorem tb_ky_15 : tb_cky 15 = true := tb_kz_15
set_option maxRecDepth 100000 in
theorem tb_kz_16_0 : tbc_16_0.all (tb_ckr 16) = true := by decide +kernel
set_option maxRecDepth 100000 in
theorem tb_kz_16_1 : tbc_16_1.all (tb_ckr 16) = true := by decide +kernel
theorem tb_ky_16 : tb_cky 16 = true := by
  show (tbc_16_0 ++ tbc_16_1).all (tb_ckr 16) = true
  simp only [List.all_append, tb_kz_16_0, tb_kz_16_1, Bool.and_self]
set_option maxRecDepth 100000 in
theorem tb_kz_17_0 : tbc_17_0.all (tb_ckr 17) = true := by decide +kernel
set_option maxRecDepth 100000 in
theorem tb_kz_17_1 : tbc_17_1.all (tb_ckr 17) = true := by decide +kernel
theorem tb_ky_17 : tb_cky 17 = true := by
  show (tbc_17_0 ++ tbc_17_1).all (tb_ckr 17) = true
  simp only [List.all_append, tb_kz_17_0, tb_kz_17_1, Bool.and_self]
set_option maxRecDepth 100000 in
theorem tb_kz_18 : tbc_18.all (tb_ckr 18) = true := by decide +kernel
theorem tb_ky_18 : tb_cky 18 = true := tb_kz_18
set_option maxRecDepth 100000 in
theorem tb_kz_19 : tbc_19.all (tb_ckr 19) = true := by decide +kernel
theorem tb_ky_19 : tb_cky 19 = true := tb_kz_19
set_option maxRecDepth 100000 in
theorem tb_kz_20 : tbc_20.all (tb_ckr 20) = true := by decide +kernel
theorem tb_ky_20 : tb_cky 20 = true := tb_kz_20
set_option maxRecDepth 100000 in
theorem tb_kz_21 : tbc_21.all (tb_ckr 21) = true := by decide +kernel
theorem tb_ky_21 : tb_cky 21 = true := tb_kz_21
set_option maxRecDepth 100000 in
theorem tb_kz_22 : tbc_22.all (tb_ckr 22) = true := by decide +kernel
theorem tb_ky_22 : tb_cky 22 = true := tb_kz_22
set_option maxRecDepth 100000 in
theorem tb_kz_23 : tbc_23.all (tb_ckr 23) = true := by decide +kernel
theorem tb_ky_23 : tb_cky 23 = true := tb_kz_23
set_option maxRecDepth 100000 in
theorem tb_kz_24 : tbc_24.all (tb_ckr 24) = true := by decide +kernel
theorem tb_ky_24 : tb_cky 24 = true := tb_kz_24
set_option maxRecDepth 100000 in
theorem tb_kz_25 : tbc_25.all (tb_ckr 25) = true := by decide +kernel
theorem tb_ky_25 : tb_cky 25 = true := tb_kz_25
set_option maxRecDepth 100000 in
theorem tb_kz_26 : tbc_26.all (tb_ckr 26) = true := by decide +kernel
theorem tb_ky_26 : tb_cky 26 = true := tb_kz_26
set_option maxRecDepth 100000 in
theorem tb_kz_27 : tbc_27.all (tb_ckr 27) = true := by decide +kernel
theorem tb_ky_27 : tb_cky 27 = true := tb_kz_27
set_option maxRecDepth 100000 in
theorem tb_kz_28 : tbc_28.all (tb_ckr 28) = true := by decide +kernel
theorem tb_ky_28 : tb_cky 28 = true := tb_kz_28
set_option maxRecDepth 100000 in
theorem tb_kz_29 : tbc_29.all (tb_ckr 29) = true := by decide +kernel
theorem tb_ky_29 : tb_cky 29 = true := tb_kz_29
set_option maxRecDepth 100000 in
theorem tb_kz_30_0 : tbc_30_0.all (tb_ckr 30) = true := by decide +kernel
set_option maxRecDepth 100000 in
theorem tb_kz_30_1 : tbc_30_1.all (tb_ckr 30) = true := by decide +kernel
theorem tb_ky_30 : tb_cky 30 = true := by
  show (tbc_30_0 ++ tbc_30_1).all (tb_ckr 30) = true
  simp only [List.all_append, tb_kz_30_0, tb_kz_30_1, Bool.and_self]
set_option maxRecDepth 100000 in
theorem tb_kz_31 : tbc_31.all (tb_ckr 31) = true := by decide +kernel
theorem tb_ky_31 : tb_cky 31 = true := tb_kz_31
set_option maxRecDepth 100000 in
theorem tb_kz_32_0 : tbc_32_0.all (tb_ckr 32) = true := by decide +kernel
set_option maxRecDepth 100000 in
theorem tb_kz_32_1 : tbc_32_1.all (tb_ckr 32) = true := by decide +kernel
theorem tb_ky_32 : tb_cky 32 = true := by
  show (tbc_32_0 ++ tbc_32_1).all (tb_ckr 32) = true
  simp only [List.all_append, tb_kz_32_0, tb_kz_32_1, Bool.and_self]
set_option maxRecDepth 100000 in
theorem tb_kz_33 : tbc_33.all (tb_ckr 33) = true := by decide +kernel
theorem tb_ky_33 : tb_cky 33 = true := tb_kz_33
set_option maxRecDepth 100000 in
theorem tb_kz_34 : tbc_34.all (tb_ckr 34) = true := by decide +kernel
theorem tb_ky_34 : tb_cky 34 = true := tb_kz_34
set_option maxRecDepth 100000 in
theorem tb_kz_35 : tbc_35.all (tb_ckr 35) = true := by decide +kernel
theorem tb_ky_35 : tb_cky 35 = true := tb_kz_35
set_option maxRecDepth 100000 in
theorem tb_kz_36 : tbc_36.all (tb_ckr 36) = true := by decide +kernel
theorem tb_ky_36 : tb_cky 36 = true := tb_kz_36
set_option maxRecDepth 100000 in
theorem tb_kz_37 : tbc_37.all (tb_ckr 37) = true := by decide +kernel
theorem tb_ky_37 : tb_cky 37 = true := tb_kz_37
set_option maxRecDepth 100000 in
theorem tb_kz_38 : tbc_38.all (tb_ckr 38) = true := by decide +kernel
theorem tb_ky_38 : tb_cky 38 = true := tb_kz_38
set_option maxRecDepth 100000 in
theorem tb_kz_39 : tbc_39.all (tb_ckr 39) = true := by decide +kernel
theorem tb_ky_39 : tb_cky 39 = true := tb_kz_39
set_option maxRecDepth 100000 in
theorem tb_kz_40 : tbc_40.all (tb_ckr 40) = true := by decide +kernel
theorem tb_ky_40 : tb_cky 40 = true := tb_kz_40
set_option maxRecDepth 100000 in
theorem tb_kz_41_0 : tbc_41_0.all (tb_ckr 41) = true := by decide +kernel
set_option maxRecDepth 100000 in
theorem tb_kz_41_1 : tbc_41_1.all (tb_ckr 41) = true := by decide +kernel
theorem tb_ky_41 : tb_cky 41 = true := by
  show (tbc_41_0 ++ tbc_41_1).all (tb_ckr 41) = true
  simp only [List.all_append, tb_kz_41_0, tb_kz_41_1, Bool.and_self]
set_option maxRecDepth 100000 in
theorem tb_kz_42 : tbc_42.all (tb_ckr 42) = true := by decide +kernel
theorem tb_ky_42 : tb_cky 42 = true := tb_kz_42
set_option maxRecDepth 100000 in
theorem tb_kz_43 : tbc_43.all (tb_ckr 43) = true := by decide +kernel
theorem tb_ky_43 : tb_cky 43 = true := tb_kz_43
set_option maxRecDepth 100000 in
theorem tb_kz_44 : tbc_44.all (tb_ckr 44) = true := by decide +kernel
theorem tb_ky_44 : tb_cky 44 = true := tb_kz_44
set_option maxRecDepth 100000 in
theorem tb_kz_45 : tbc_45.all (tb_ckr 45) = true := by decide +kernel
theorem tb_ky_45 : tb_cky 45 = true := tb_kz_45
set_option maxRecDepth 100000 in
theorem tb_kz_46_0 : tbc_46_0.all (tb_ckr 46) = true := by decide +kernel
set_option maxRecDepth 100000 in
theorem tb_kz_46_1 : tbc_46_1.all (tb_ckr 46) = true := by decide +kernel
theorem tb_ky_46 : tb_cky 46 = true := by
  show (tbc_46_0 ++ tbc_46_1).all (tb_ckr 46) = true
  simp only [List.all_append, tb_kz_46_0, tb_kz_46_1, Bool.and_self]
set_option maxRecDepth 100000 in
theorem tb_kz_47 : tbc_47.all (tb_ckr 47) = true := by decide +kernel
theorem tb_ky_47 : tb_cky 47 = true := tb_kz_47
set_option maxRecDepth 100000 in
theorem tb_kz_48 : tbc_48.all (tb_ckr 48) = true := by decide +kernel
theorem tb_ky_48 : tb_cky 48 = true := tb_kz_48
set_option maxRecDepth 100000 in
theorem tb_kz_49 : tbc_49.all (tb_ckr 49) = true := by decide +kernel
theorem tb_ky_49 : tb_cky 49 = true := tb_kz_49
set_option maxRecDepth 100000 in
theorem tb_kz_50_0 : tbc_50_0.all (tb_ckr 50) = true := by decide +kernel
set_option maxRecDepth 100000 in
theorem tb_kz_50_1 : tbc_50_1.all (tb_ckr 50) = true := by decide +kernel
theorem tb_ky_50 : tb_cky 50 = true := by
  show (tbc_50_0 ++ tbc_50_1).all (tb_ckr 50) = true
  simp only [List.all_append, tb_kz_50_0, tb_kz_50_1, Bool.and_self]
set_option maxRecDepth 100000 in
theorem tb_kz_51_0 : tbc_51_0.all (tb_ckr 51) = true := by decide +kernel
set_option maxRecDepth 100000 in
theorem tb_kz_51_1 : tbc_51_1.all (tb_ckr 51) = true := by decide +kernel
theorem tb_ky_51 : tb_cky 51 = true := by
  show (tbc_51_0 ++ tbc_51_1).all (tb_ckr 51) = true
  simp only [List.all_append, tb_kz_51_0, tb_kz_51_1, Bool.and_self]
set_option maxRecDepth 100000 in
theorem tb_kz_52 : tbc_52.all (tb_ckr 52) = true := by decide +kernel
theorem tb_ky_52 : tb_cky 52 = true := tb_kz_52
set_option maxRecDepth 100000 in
theorem tb_kz_53 : tbc_53.all (tb_ckr 53) = true := by decide +kernel
theorem tb_ky_53 : tb_cky 53 = true := tb_kz_53
set_option maxRecDepth 100000 in
theorem tb_kz_54 : tbc_54.all (tb_ckr 54) = true := by decide +kernel
theorem tb_ky_54 : tb_cky 54 = true := tb_kz_54
set_option maxRecDepth 100000 in
theorem tb_kz_55 : tbc_55.all (tb_ckr 55) = true := by decide +kernel
theorem tb_ky_55 : tb_cky 55 = true := tb_kz_55
set_option maxRecDepth 100000 in
theorem tb_kz_56 : tbc_56.all (tb_ckr 56) = true := by decide +kernel
theorem tb_ky_56 : tb_cky 56 = true := tb_kz_56
set_option maxRecDepth 100000 in
theorem tb_kz_57 : tbc_57.all (tb_ckr 57) = true := by decide +kernel
theorem tb_ky_57 : tb_cky 57 = true := tb_kz_57
set_option maxRecDepth 100000 in
theorem tb_kz_58 : tbc_58.all (tb_ckr 58) = true := by decide +kernel
theorem tb_ky_58 : tb_cky 58 = true := tb_kz_58
set_option maxRecDepth 100000 in
theorem tb_kz_59 : tbc_59.all (tb_ckr 59) = true := by decide +kernel
theorem tb_ky_59 : tb_cky 59 = true := tb_kz_59
set_option maxRecDepth 100000 in
theorem tb_kz_60_0 : tbc_60_0.all (tb_ckr 60) = true := by decide +kernel
set_option maxRecDepth 100000 in
theorem tb_kz_60_1 : tbc_60_1.all (tb_ckr 60) = true := by decide +kernel
theorem tb_ky_60 : tb_cky 60 = true := by
  show (tbc_60_0 ++ tbc_60_1).all (tb_ckr 60) = true
  simp only [List.all_append, tb_kz_60_0, tb_kz_60_1, Bool.and_self]
set_option maxRecDepth 100000 in
theorem tb_kz_61_0 : tbc_61_0.all (tb_ckr 61) = true := by decide +kernel
set_option maxRecDepth 100000 in
theorem tb_kz_61_1 : tbc_61_1.all (tb_ckr 61) = true := by decide +kernel
set_option maxRecDepth 100000 in
theorem tb_kz_61_2 : tbc_61_2.all (tb_ckr 61) = true := by decide +kernel
theorem tb_ky_61 : tb_cky 61 = true := by
  show (tbc_61_0 ++ tbc_61_1 ++ tbc_61_2).all (tb_ckr 61) = true
  simp only [List.all_append, tb_kz_61_0, tb_kz_61_1, tb_kz_61_2, Bool.and_self]
set_option maxRecDepth 100000 in
theorem tb_kz_62_0 : tbc_62_0.all (tb_ckr 62) = true := by decide +kernel
set_option maxRecDepth 100000 in
theorem tb_kz_62_1 : tbc_62_1.all (tb_ckr 62) = true := by decide +kernel
theorem tb_ky_62 : tb_cky 62 = true := by
  show (tbc_62_0 ++ tbc_62_1).all (tb_ckr 62) = true
  simp only [List.all_append, tb_kz_62_0, tb_kz_62_1, Bool.and_self]
set_option maxRecDepth 100000 in
theorem tb_kz_63_0 : tbc_63_0.all (tb_ckr 63) = true := by decide +kernel
set_option maxRecDepth 100000 in
theorem tb_kz_63_1 : tbc_63_1.all (tb_ckr 63) = true := by decide +kernel
theorem tb_ky_63 : tb_cky 63 = true := by
  show (tbc_63_0 ++ tbc_63_1).all (tb_ckr 63) = true
  simp only [List.all_append, tb_kz_63_0, tb_kz_63_1, Bool.and_self]
set_option maxRecDepth 100000 in
theorem tb_kz_64 : tbc_64.all (tb_ckr 64) = true := by decide +kernel
theorem tb_ky_64 : tb_cky 64 = true := tb_kz_64
set_option maxRecDepth 100000 in
theorem tb_kz_65 : tbc_65.all (tb_ckr 65) = true := by decide +kernel
theorem tb_ky_65 : tb_cky 65 = true := tb_kz_65
set_option maxRecDepth 100000 in
theorem tb_kz_66 : tbc_66.all (tb_ckr 66) = true := by decide +kernel
theorem tb_ky_66 : tb_cky 66 = true := tb_kz_66
set_option maxRecDepth 100000 in
theorem tb_kz_67 : tbc_67.all (tb_ckr 67) = true := by decide +kernel
theorem tb_ky_67 : tb_cky 67 = true := tb_kz_67
set_option maxRecDepth 100000 in
theorem tb_kz_68 : tbc_68.all (tb_ckr 68) = true := by decide +kernel
theorem tb_ky_68 : tb_cky 68 = true := tb_kz_68
set_option maxRecDepth 100000 in
theorem tb_kz_69 : tbc_69.all (tb_ckr 69) = true := by decide +kernel
theorem tb_ky_69 : tb_cky 69 = true := tb_kz_69
set_option maxRecDepth 100000 in
theorem tb_kz_70 : tbc_70.all (tb_ckr 70) = true := by decide +kernel
theorem tb_ky_70 : tb_cky 70 = true := tb_kz_70
set_option maxRecDepth 100000 in
theorem tb_kz_71 : tbc_71.all (tb_ckr 71) = true := by decide +kernel
theorem tb_ky_71 : tb_cky 71 = true := tb_kz_71
set_option maxRecDepth 100000 in
theorem tb_kz_72_0 : tbc_72_0.all (tb_ckr 72) = true := by decide +kernel
set_option maxRecDepth 100000 in
theorem tb_kz_72_1 : tbc_72_1.all (tb_ckr 72) = true := by decide +kernel
theorem tb_ky_72 : tb_cky 72 = true := by
  show (tbc_72_0 ++ tbc_72_1).all (tb_ckr 72) = true
  simp only [List.all_append, tb_kz_72_0, tb_kz_72_1, Bool.and_self]
set_option maxRecDepth 100000 in
theorem tb_kz_73_0 : tbc_73_0.all (tb_ckr 73) = true := by decide +kernel
set_option maxRecDepth 100000 in
theorem tb_kz_73_1 : tbc_73_1.all (tb_ckr 73) = true := by decide +kernel
theorem tb_ky_73 : tb_cky 73 = true := by
  show (tbc_73_0 ++ tbc_73_1).all (tb_ckr 73) = true
  simp only [List.all_append, tb_kz_73_0, tb_kz_73_1, Bool.and_self]
set_option maxRecDepth 100000 in
theorem tb_kz_74 : tbc_74.all (tb_ckr 74) = true := by decide +kernel
theorem tb_ky_74 : tb_cky 74 = true := tb_kz_74
set_option maxRecDepth 100000 in
theorem tb_kz_75 : tbc_75.all (tb_ckr 75) = true := by decide +kernel
theorem tb_ky_75 : tb_cky 75 = true := tb_kz_75
set_option maxRecDepth 100000 in
theorem tb_kz_76 : tbc_76.all (tb_ckr 76) = true := by decide +kernel
theorem tb_ky_76 : tb_cky 76 = true := tb_kz_76
set_option maxRecDepth 100000 in
theorem tb_kz_77 : tbc_77.all (tb_ckr 77) = true := by decide +kernel
theorem tb_ky_77 : tb_cky 77 = true := tb_kz_77
set_option maxRecDepth 100000 in
theorem tb_kz_78_0 : tbc_78_0.all (tb_ckr 78) = true := by decide +kernel
set_option maxRecDepth 100000 in
theorem tb_kz_78_1 : tbc_78_1.all (tb_ckr 78) = true := by decide +kernel
theorem tb_ky_78 : tb_cky 78 = true := by
  show (tbc_78_0 ++ tbc_78_1).all (tb_ckr 78) = true
  simp only [List.all_append, tb_kz_78_0, tb_kz_78_1, Bool.and_self]
set_option maxRecDepth 100000 in
theorem tb_kz_79 : tbc_79.all (tb_ckr 79) = true := by decide +kernel
theorem tb_ky_79 : tb_cky 79 = true := tb_kz_79
set_option maxRecDepth 100000 in
theorem tb_kz_80 : tbc_80.all (tb_ckr 80) = true := by decide +kernel
theorem tb_ky_80 : tb_cky 80 = true := tb_kz_80
set_option maxRecDepth 100000 in
theorem tb_kz_81 : tbc_81.all (tb_ckr 81) = true := by decide +kernel
theorem tb_ky_81 : tb_cky 81 = true := tb_kz_81
set_option maxRecDepth 100000 in
theorem tb_kz_82 : tbc_82.all (tb_ckr 82) = true := by decide +kernel
theorem tb_ky_82 : tb_cky 82 = true := tb_kz_82
set_option maxRecDepth 100000 in
theorem tb_kz_83 : tbc_83.all (tb_ckr 83) = true := by decide +kernel
theorem tb_ky_83 : tb_cky 83 = true := tb_kz_83
set_option maxRecDepth 100000 in
theorem tb_kz_84 : tbc_84.all (tb_ckr 84) = true := by decide +kernel
theorem tb_ky_84 : tb_cky 84 = true := tb_kz_84
set_option maxRecDepth 100000 in
theorem tb_kz_85 : tbc_85.all (tb_ckr 85) = true := by decide +kernel
theorem tb_ky_85 : tb_cky 85 = true := tb_kz_85
set_option maxRecDepth 100000 in
theorem tb_kz_86 : tbc_86.all (tb_ckr 86) = true := by decide +kernel
theorem tb_ky_86 : tb_cky 86 = true := tb_kz_86
set_option maxRecDepth 100000 in
theorem tb_kz_87 : tbc_87.all (tb_ckr 87) = true := by decide +kernel
theorem tb_ky_87 : tb_cky 87 = true := tb_kz_87
set_option maxRecDepth 100000 in
theorem tb_kz_88 : tbc_88.all (tb_ckr 88) = true := by decide +kernel
theorem tb_ky_88 : tb_cky 88 = true := tb_kz_88
set_option maxRecDepth 100000 in
theorem tb_kz_89 : tbc_89.all (tb_ckr 89) = true := by decide +kernel
theorem tb_ky_89 : tb_cky 89 = true := tb_kz_89
set_option maxRecDepth 100000 in
theorem tb_kz_90 : tbc_90.all (tb_ckr 90) = true := by decide +kernel
theorem tb_ky_90 : tb_cky 90 = true := tb_kz_90
set_option maxRecDepth 100000 in
theorem tb_kz_91 : tbc_91.all (tb_ckr 91) = true := by decide +kernel
theorem tb_ky_91 : tb_cky 91 = true := tb_kz_91
set_option maxRecDepth 100000 in
theorem tb_kz_92 : tbc_92.all (tb_ckr 92) = true := by decide +kernel
theorem tb_ky_92 : tb_cky 92 = true := tb_kz_92
set_option maxRecDepth 100000 in
theorem tb_kz_93_0 : tbc_93_0.all (tb_ckr 93) = true := by decide +kernel
set_option maxRecDepth 100000 in
theorem tb_kz_93_1 : tbc_93_1.all (tb_ckr 93) = true := by decide +kernel
set_option maxRecDepth 100000 in
theorem tb_kz_93_2 : tbc_93_2.all (tb_ckr 93) = true := by decide +kernel
theorem tb_ky_93 : tb_cky 93 = true := by
  show (tbc_93_0 ++ tbc_93_1 ++ tbc_93_2).all (tb_ckr 93) = true
  simp only [List.all_append, tb_kz_93_0, tb_kz_93_1, tb_kz_93_2, Bool.and_self]
set_option maxRecDepth 100000 in
theorem tb_kz_94 : tbc_94.all (tb_ckr 94) = true := by decide +kernel
theorem tb_ky_94 : tb_cky 94 = true := tb_kz_94
set_option maxRecDepth 100000 in
theorem tb_kz_95_0 : tbc_95_0.all (tb_ckr 95) = true := by decide +kernel
set_option maxRecDepth 100000 in
theorem tb_kz_95_1 : tbc_95_1.all (tb_ckr 95) = true := by decide +kernel
theorem tb_ky_95 : tb_cky 95 = true := by
  show (tbc_95_0 ++ tbc_95_1).all (tb_ckr 95) = true
  simp only [List.all_append, tb_kz_95_0, tb_kz_95_1, Bool.and_self]
set_option maxRecDepth 100000 in
theorem tb_kz_96 : tbc_96.all (tb_ckr 96) = true := by decide +kernel
theorem tb_ky_96 : tb_cky 96 = true := tb_kz_96
set_option maxRecDepth 100000 in
theorem tb_kz_97 : tbc_97.all (tb_ckr 97) = true := by decide +kernel
theorem tb_ky_97 : tb_cky 97 = true := tb_kz_97
set_option maxRecDepth 100000 in
theorem tb_kz_98 : tbc_98.all (tb_ckr 98) = true := by decide +kernel
theorem tb_ky_98 : tb_cky 98 = true := tb_kz_98
set_option maxRecDepth 100000 in
theorem tb_kz_99 : tbc_99.all (tb_ckr 99) = true := by decide +kernel
theorem tb_ky_99 : tb_cky 99 = true := tb_kz_99
set_option maxRecDepth 100000 in
theorem tb_kz_100_0 : tbc_100_0.all (tb_ckr 100) = true := by decide +kernel
set_option maxRecDepth 100000 in
theorem tb_kz_100_1 : tbc_100_1.all (tb_ckr 100) = true := by decide +kernel
theorem tb_ky_100 : tb_cky 100 = true := by
  show (tbc_100_0 ++ tbc_100_1).all (tb_ckr 100) = true
  simp only [List.all_append, tb_kz_100_0, tb_kz_100_1, Bool.and_self]
set_option maxRecDepth 100000 in
theorem tb_kz_101 : tbc_101.all (tb_ckr 101) = true := by decide +kernel
theorem tb_ky_101 : tb_cky 101 = true := tb_kz_101
set_option maxRecDepth 100000 in
theorem tb_kz_102 : tbc_102.all (tb_ckr 102) = true := by decide +kernel
theorem tb_ky_102 : tb_cky 102 = true := tb_kz_102
set_option maxRecDepth 100000 in
theorem tb_kz_103_0 : tbc_103_0.all (tb_ckr 103) = true := by decide +kernel
set_option maxRecDepth 100000 in
theorem tb_kz_103_1 : tbc_103_1.all (tb_ckr 103) = true := by decide +kernel
theorem tb_ky_103 : tb_cky 103 = true := by
  show (tbc_103_0 ++ tbc_103_1).all (tb_ckr 103) = true
  simp only [List.all_append, tb_kz_103_0, tb_kz_103_1, Bool.and_self]
set_option maxRecDepth 100000 in
theorem tb_kz_104 : tbc_104.all (tb_ckr 104) = true := by decide +kernel
theorem tb_ky_104 : tb_cky 104 = true := tb_kz_104
set_option maxRecDepth 100000 in
theorem tb_kz_105_0 : tbc_105_0.all (tb_ckr 105) = true := by decide +kernel
set_option maxRecDepth 100000 in
theorem tb_kz_105_1 : tbc_105_1.all (tb_ckr 105) = true := by decide +kernel
theorem tb_ky_105 : tb_cky 105 = true := by
  show (tbc_105_0 ++ tbc_105_1).all (tb_ckr 105) = true
  simp only [List.all_append, tb_kz_105_0, tb_kz_105_1, Bool.and_self]
set_option maxRecDepth 100000 in
theorem tb_kz_106 : tbc_106.all (tb_ckr 106) = true := by decide +kernel
theorem tb_ky_106 : tb_cky 106 = true := tb_kz_106
set_option maxRecDepth 100000 in
theorem tb_kz_107 : tbc_107.all (tb_ckr 107) = true := by decide +kernel
theorem tb_ky_107 : tb_cky 107 = true := tb_kz_107
set_option maxRecDepth 100000 in
theorem tb_kz_108 : tbc_108.all (tb_ckr 108) = true := by decide +kernel
theorem tb_ky_108 : tb_cky 108 = true := tb_kz_108
set_option maxRecDepth 100000 in
theorem tb_kz_109 : tbc_109.all (tb_ckr 109) = true := by decide +kernel
theorem tb_ky_109 : tb_cky 109 = true := tb_kz_109
set_option maxRecDepth 100000 in
theorem tb_kz_110 : tbc_110.all (tb_ckr 110) = true := by decide +kernel
theorem tb_ky_110 : tb_cky 110 = true := tb_kz_110
set_option maxRecDepth 100000 in
theorem tb_kz_111_0 : tbc_111_0.all (tb_ckr 111) = true := by decide +kernel
set_option maxRecDepth 100000 in
theorem tb_kz_111_1 : tbc_111_1.all (tb_ckr 111) = true := by decide +kernel
theorem tb_ky_111 : tb_cky 111 = true := by
  show (tbc_111_0 ++ tbc_111_1).all (tb_ckr 111) = true
  simp only [List.all_append, tb_kz_111_0, tb_kz_111_1, Bool.and_self]
set_option maxRecDepth 100000 in
theorem tb_kz_112_0 : tbc_112_0.all (tb_ckr 112) = true := by decide +kernel
set_option maxRecDepth 100000 in
theorem tb_kz_112_1 : tbc_112_1.all (tb_ckr 112) = true := by decide +kernel
theorem tb_ky_112 : tb_cky 112 = true := by
  show (tbc_112_0 ++ tbc_112_1).all (tb_ckr 112) = true
  simp only [List.all_append, tb_kz_112_0, tb_kz_112_1, Bool.and_self]
set_option maxRecDepth 100000 in
theorem tb_kz_113 : tbc_113.all (tb_ckr 113) = true := by decide +kernel
theorem tb_ky_113 : tb_cky 113 = true := tb_kz_113
set_option maxRecDepth 100000 in
theorem tb_kz_114 : tbc_114.all (tb_ckr 114) = true := by decide +kernel
theorem tb_ky_114 : tb_cky 114 = true := tb_kz_114
set_option maxRecDepth 100000 in
theorem tb_kz_115 : tbc_115.all (tb_ckr 115) = true := by decide +kernel
theorem tb_ky_115 : tb_cky 115 = true := tb_kz_115
set_option maxRecDepth 100000 in
theorem tb_kz_116_0 : tbc_116_0.all (tb_ckr 116) = true := by decide +kernel
set_option maxRecDepth 100000 in
theorem tb_kz_116_1 : tbc_116_1.all (tb_ckr 116) = true := by decide +kernel
theorem tb_ky_116 : tb_cky 116 = true := by
  show (tbc_116_0 ++ tbc_116_1).all (tb_ckr 116) = true
  simp only [List.all_append, tb_kz_116_0, tb_kz_116_1, Bool.and_self]
set_option maxRecDepth 100000 in
theorem tb_kz_117_0 : tbc_117_0.all (tb_ckr 117) = true := by decide +kernel
set_option maxRecDepth 100000 in
theorem tb_kz_117_1 : tbc_117_1.all (tb_ckr 117) = true := by decide +kernel
theorem tb_ky_117 : tb_cky 117 = true := by
  show (tbc_117_0 ++ tbc_117_1).all (tb_ckr 117) = true
  simp only [List.all_append, tb_kz_117_0, tb_kz_117_1, Bool.and_self]
set_option maxRecDepth 100000 in
theorem tb_kz_118 : tbc_118.all (tb_ckr 118) = true := by decide +kernel
theorem tb_ky_118 : tb_cky 118 = true := tb_kz_118
set_option maxRecDepth 100000 in
theorem tb_kz_119_0 : tbc_119_0.all (tb_ckr 119) = true := by decide +kernel
set_option maxRecDepth 100000 in
theorem tb_kz_119_1 : tbc_119_1.all (tb_ckr 119) = true := by decide +kernel
theorem tb_ky_119 : tb_cky 119 = true := by
  show (tbc_119_0 ++ tbc_119_1).all (tb_ckr 119) = true
  simp only [List.all_append, tb_kz_119_0, tb_kz_119_1, Bool.and_self]
set_option maxRecDepth 100000 in
theorem tb_kz_120_0 : tbc_120_0.all (tb_ckr 120) = true := by decide +kernel
set_option maxRecDepth 100000 in
theorem tb_kz_120_1 : tbc_120_1.all (tb_ckr 120) = true := by decide +kernel
theorem tb_ky_120 : tb_cky 120 = true := by
  show (tbc_120_0 ++ tbc_120_1).all (tb_ckr 120) = true
  simp only [List.all_append, tb_kz_120_0, tb_kz_120_1, Bool.and_self]
set_option maxRecDepth 100000 in
theorem tb_kz_121 : tbc_121.all (tb_ckr 121) = true := by decide +kernel
theorem tb_ky_121 : tb_cky 121 = true := tb_kz_121
set_option maxRecDepth 100000 in
theorem tb_kz_122_0 : tbc_122_0.all (tb_ckr 122) = true := by decide +kernel
set_option maxRecDepth 100000 in
theorem tb_kz_122_1 : tbc_122_1.all (tb_ckr 122) = true := by decide +kernel
theorem tb_ky_122 : tb_cky 122 = true := by
  show (tbc_122_0 ++ tbc_122_1).all (tb_ckr 122) = true
  simp only [List.all_append, tb_kz_122_0, tb_kz_122_1, Bool.and_self]
set_option maxRecDepth 100000 in
theorem tb_kz_123_0 : tbc_123_0.all (tb_ckr 123) = true := by decide +kernel
set_option maxRecDepth 100000 in
theorem tb_kz_123_1 : tbc_123_1.all (tb_ckr 123) = true := by decide +kernel
theorem tb_ky_123 : tb_cky 123 = true := by
  show (tbc_123_0 ++ tbc_123_1).all (tb_ckr 123) = true
  simp only [List.all_append, tb_kz_123_0, tb_kz_123_1, Bool.and_self]
set_option maxRecDepth 100000 in
theorem tb_kz_124 : tbc_124.all (tb_ckr 124) = true := by decide +kernel
theorem tb_ky_124 : tb_cky 124 = true := tb_kz_124
set_option maxRecDepth 100000 in
theorem tb_kz_125 : tbc_125.all (tb_ckr 125) = true := by decide +kernel
theorem tb_ky_125 : tb_cky 125 = true := tb_kz_125
set_option maxRecDepth 100000 in
theorem tb_kz_126_0 : tbc_126_0.all (tb_ckr 126) = true := by decide +kernel
set_option maxRecDepth 100000 in
theorem tb_kz_126_1 : tbc_126_1.all (tb_ckr 126) = true := by decide +kernel
theorem tb_ky_126 : tb_cky 126 = true := by
  show (tbc_126_0 ++ tbc_126_1).all (tb_ckr 126) = true
  simp only [List.all_append, tb_kz_126_0, tb_kz_126_1, Bool.and_self]
set_option maxRecDepth 100000 in
theorem tb_kz_127 : tbc_127.all (tb_ckr 127) = true := by decide +kernel
theorem tb_ky_127 : tb_cky 127 = true := tb_kz_127
set_option maxRecDepth 100000 in
theorem tb_kz_128 : tbc_128.all (tb_ckr 128) = true := by decide +kernel
theorem tb_ky_128 : tb_cky 128 = true := tb_kz_128
set_option maxRecDepth 100000 in
theorem tb_kz_129_0 : tbc_129_0.all (tb_ckr 129) = true := by decide +kernel
set_option maxRecDepth 100000 in
theorem tb_kz_129_1 : tbc_129_1.all (tb_ckr 129) = true := by decide +kernel
theorem tb_ky_129 : tb_cky 129 = true := by
  show (tbc_129_0 ++ tbc_129_1).all (tb_ckr 129) = true
  simp only [List.all_append, tb_kz_129_0, tb_kz_129_1, Bool.and_self]
set_option maxRecDepth 100000 in
theorem tb_kz_130_0 : tbc_130_0.all (tb_ckr 130) = true := by decide +kernel
set_option maxRecDepth 100000 in
theorem tb_kz_130_1 : tbc_130_1.all (tb_ckr 130) = true := by decide +kernel
set_option maxRecDepth 100000 in
theorem tb_kz_130_2 : tbc_130_2.all (tb_ckr 130) = true := by decide +kernel
set_option maxRecDepth 100000 in
theorem tb_kz_130_3 : tbc_130_3.all (tb_ckr 130) = true := by decide +kernel
theorem tb_ky_130 : tb_cky 130 = true := by
  show (tbc_130_0 ++ tbc_130_1 ++ tbc_130_2 ++ tbc_130_3).all (tb_ckr 130) = true
  simp only [List.all_append, tb_kz_130_0, tb_kz_130_1, tb_kz_130_2, tb_kz_130_3, Bool.and_self]
set_option maxRecDepth 100000 in
theorem tb_kz_131_0 : tbc_131_0.all (tb_ckr 131) = true := by decide +kernel
set_option maxRecDepth 100000 in
theorem tb_kz_131_1 : tbc_131_1.all (tb_ckr 131) = true := by decide +kernel
theorem tb_ky_131 : tb_cky 131 = true := by
  show (tbc_131_0 ++ tbc_131_1).all (tb_ckr 131) = true
  simp only [List.all_append, tb_kz_131_0, tb_kz_131_1, Bool.and_self]
set_option maxRecDepth 100000 in
theorem tb_kz_132_0 : tbc_132_0.all (tb_ckr 132) = true := by decide +kernel
set_option maxRecDepth 100000 in
theorem tb_kz_132_1 : tbc_132_1.all (tb_ckr 132) = true := by decide +kernel
set_option maxRecDepth 100000 in
theorem tb_kz_132_2 : tbc_132_2.all (tb_ckr 132) = true := by decide +kernel
theorem tb_ky_132 : tb_cky 132 = true := by
  show (tbc_132_0 ++ tbc_132_1 ++ tbc_132_2).all (tb_ckr 132) = true
  simp only [List.all_append, tb_kz_132_0, tb_kz_132_1, tb_kz_132_2, Bool.and_self]
set_option maxRecDepth 100000 in
theorem tb_kz_133 : tbc_133.all (tb_ckr 133) = true := by decide +kernel
theorem tb_ky_133 : tb_cky 133 = true := tb_kz_133
set_option maxRecDepth 100000 in
theorem tb_kz_134 : tbc_134.all (tb_ckr 134) = true := by decide +kernel
theorem tb_ky_134 : tb_cky 134 = true := tb_kz_134
set_option maxRecDepth 100000 in
theorem tb_kz_135_0 : tbc_135_0.all (tb_ckr 135) = true := by decide +kernel
set_option maxRecDepth 100000 in
theorem tb_kz_135_1 : tbc_135_1.all (tb_ckr 135) = true := by decide +kernel
theorem tb_ky_135 : tb_cky 135 = true := by
  show (tbc_135_0 ++ tbc_135_1).all (tb_ckr 135) = true
  simp only [List.all_append, tb_kz_135_0, tb_kz_135_1, Bool.and_self]
set_option maxRecDepth 100000 in
theorem tb_kz_136 : tbc_136.all (tb_ckr 136) = true := by decide +kernel
theorem tb_ky_136 : tb_cky 136 = true := tb_kz_136
set_option maxRecDepth 100000 in
theorem tb_kz_137_0 : tbc_137_0.all (tb_ckr 137) = true := by decide +kernel
set_option maxRecDepth 100000 in
theorem tb_kz_137_1 : tbc_137_1.all (tb_ckr 137) = true := by decide +kernel
theorem tb_ky_137 : tb_cky 137 = true := by
  show (tbc_137_0 ++ tbc_137_1).all (tb_ckr 137) = true
  simp only [List.all_append, tb_kz_137_0, tb_kz_137_1, Bool.and_self]
set_option maxRecDepth 100000 in
theorem tb_kz_138 : tbc_138.all (tb_ckr 138) = true := by decide +kernel
theorem tb_ky_138 : tb_cky 138 = true := tb_kz_138
set_option maxRecDepth 100000 in
theorem tb_kz_139 : tbc_139.all (tb_ckr 139) = true := by decide +kernel
theorem tb_ky_139 : tb_cky 139 = true := tb_kz_139
set_option maxRecDepth 100000 in
theorem tb_kz_140_0 : tbc_140_0.all (tb_ckr 140) = true := by decide +kernel
set_option maxRecDepth 100000 in
theorem tb_kz_140_1 : tbc_140_1.all (tb_ckr 140) = true := by decide +kernel
theorem tb_ky_140 : tb_cky 140 = true := by
  show (tbc_140_0 ++ tbc_140_1).all (tb_ckr 140) = true
  simp only [List.all_append, tb_kz_140_0, tb_kz_140_1, Bool.and_self]
set_option maxRecDepth 100000 in
theorem tb_kz_141 : tbc_141.all (tb_ckr 141) = true := by decide +kernel
theorem tb_ky_141 : tb_cky 141 = true := tb_kz_141
set_option maxRecDepth 100000 in
theorem tb_kz_142_0 : tbc_142_0.all (tb_ckr 142) = true := by decide +kernel
set_option maxRecDepth 100000 in
theorem tb_kz_142_1 : tbc_142_1.all (tb_ckr 142) = true := by decide +kernel
set_option maxRecDepth 100000 in
theorem tb_kz_142_2 : tbc_142_2.all (tb_ckr 142) = true := by decide +kernel
theorem tb_ky_142 : tb_cky 142 = true := by
  show (tbc_142_0 ++ tbc_142_1 ++ tbc_142_2).all (tb_ckr 142) = true
  simp only [List.all_append, tb_kz_142_0, tb_kz_142_1, tb_kz_142_2, Bool.and_self]
set_option maxRecDepth 100000 in
theorem tb_kz_143_0 : tbc_143_0.all (tb_ckr 143) = true := by decide +kernel
set_option maxRecDepth 100000 in
theorem tb_kz_143_1 : tbc_143_1.all (tb_ckr 143) = true := by decide +kernel
theorem tb_ky_143 : tb_cky 143 = true := by
  show (tbc_143_0 ++ tbc_143_1).all (tb_ckr 143) = true
  simp only [List.all_append, tb_kz_143_0, tb_kz_143_1, Bool.and_self]
set_option maxRecDepth 100000 in
theorem tb_kz_144_0 : tbc_144_0.all (tb_ckr 144) = true := by decide +kernel
set_option maxRecDepth 100000 in
theorem tb_kz_144_1 : tbc_144_1.all (tb_ckr 144) = true := by decide +kernel
theorem tb_ky_144 : tb_cky 144 = true := by
  show (tbc_144_0 ++ tbc_144_1).all (tb_ckr 144) = true
  simp only [List.all_append, tb_kz_144_0, tb_kz_144_1, Bool.and_self]
set_option maxRecDepth 100000 in
theorem tb_kz_145 : tbc_145.all (tb_ckr 145) = true := by decide +kernel
theorem tb_ky_145 : tb_cky 145 = true := tb_kz_145
set_option maxRecDepth 100000 in
theorem tb_kz_146_0 : tbc_146_0.all (tb_ckr 146) = true := by decide +kernel
set_option maxRecDepth 100000 in
theorem tb_kz_146_1 : tbc_146_1.all (tb_ckr 146) = true := by decide +kernel
theorem tb_ky_146 : tb_cky 146 = true := by
  show (tbc_146_0 ++ tbc_146_1).all (tb_ckr 146) = true
  simp only [List.all_append, tb_kz_146_0, tb_kz_146_1, Bool.and_self]
set_option maxRecDepth 100000 in
theorem tb_kz_147 : tbc_147.all (tb_ckr 147) = true := by decide +kernel
theorem tb_ky_147 : tb_cky 147 = true := tb_kz_147
set_option maxRecDepth 100000 in
theorem tb_kz_148 : tbc_148.all (tb_ckr 148) = true := by decide +kernel
theorem tb_ky_148 : tb_cky 148 = true := tb_kz_148
set_option maxRecDepth 100000 in
theorem tb_kz_149_0 : tbc_149_0.all (tb_ckr 149) = true := by decide +kernel
set_option maxRecDepth 100000 in
theorem tb_kz_149_1 : tbc_149_1.all (tb_ckr 149) = true := by decide +kernel
theorem tb_ky_149 : tb_cky 149 = true := by
  show (tbc_149_0 ++ tbc_149_1).all (tb_ckr 149) = true
  simp only [List.all_append, tb_kz_149_0, tb_kz_149_1, Bool.and_self]
set_option maxRecDepth 100000 in
theorem tb_kz_150 : tbc_150.all (tb_ckr 150) = true := by decide +kernel
theorem tb_ky_150 : tb_cky 150 = true := tb_kz_150
set_option maxRecDepth 100000 in
theorem tb_kz_151 : tbc_151.all (tb_ckr 151) = true := by decide +kernel
theorem tb_ky_151 : tb_cky 151 = true := tb_kz_151
set_option maxRecDepth 100000 in
theorem tb_kz_152_0 : tbc_152_0.all (tb_ckr 152) = true := by decide +kernel
set_option maxRecDepth 100000 in
theorem tb_kz_152_1 : tbc_152_1.all (tb_ckr 152) = true := by decide +kernel
theorem tb_ky_152 : tb_cky 152 = true := by
  show (tbc_152_0 ++ tbc_152_1).all (tb_ckr 152) = true
  simp only [List.all_append, tb_kz_152_0, tb_kz_152_1, Bool.and_self]
set_option maxRecDepth 100000 in
theorem tb_kz_153 : tbc_153.all (tb_ckr 153) = true := by decide +kernel
theorem tb_ky_153 : tb_cky 153 = true := tb_kz_153
set_option maxRecDepth 100000 in
theorem tb_kz_154 : tbc_154.all (tb_ckr 154) = true := by decide +kernel
theorem tb_ky_154 : tb_cky 154 = true := tb_kz_154
set_option maxRecDepth 100000 in
theorem tb_kz_155 : tbc_155.all (tb_ckr 155) = true := by decide +kernel
theorem tb_ky_155 : tb_cky 155 = true := tb_kz_155
set_option maxRecDepth 100000 in
theorem tb_kz_156 : tbc_156.all (tb_ckr 156) = true := by decide +kernel
theorem tb_ky_156 : tb_cky 156 = true := tb_kz_156
set_option maxRecDepth 100000 in
theorem tb_kz_157 : tbc_157.all (tb_ckr 157) = true := by decide +kernel
theorem tb_ky_157 : tb_cky 157 = true := tb_kz_157
set_option maxRecDepth 100000 in
theorem tb_kz_158 : tbc_158.all (tb_ckr 158) = true := by decide +kernel
theorem tb_ky_158 : tb_cky 158 = true := tb_kz_158
set_option maxRecDepth 100000 in
theorem tb_kz_159 : tbc_159.all (tb_ckr 159) = true := by decide +kernel
theorem tb_ky_159 : tb_cky 159 = true := tb_kz_159
set_option maxRecDepth 100000 in
theorem tb_kz_160_0 : tbc_160_0.all (tb_ckr 160) = true := by decide +kernel
set_option maxRecDepth 100000 in
theorem tb_kz_160_1 : tbc_160_1.all (tb_ckr 160) = true := by decide +kernel
theorem tb_ky_160 : tb_cky 160 = true := by
  show (tbc_160_0 ++ tbc_160_1).all (tb_ckr 160) = true
  simp only [List.all_append, tb_kz_160_0, tb_kz_160_1, Bool.and_self]
set_option maxRecDepth 100000 in
theorem tb_kz_161_0 : tbc_161_0.all (tb_ckr 161) = true := by decide +kernel
set_option maxRecDepth 100000 in
theorem tb_kz_161_1 : tbc_161_1.all (tb_ckr 161) = true := by decide +kernel
theorem tb_ky_161 : tb_cky 161 = true := by
  show (tbc_161_0 ++ tbc_161_1).all (tb_ckr 161) = true
  simp only [List.all_append, tb_kz_161_0, tb_kz_161_1, Bool.and_self]
set_option maxRecDepth 100000 in
theorem tb_kz_162 : tbc_162.all (tb_ckr 162) = true := by decide +kernel
theorem tb_ky_162 : tb_cky 162 = true := tb_kz_162
set_option maxRecDepth 100000 in
theorem tb_kz_163 : tbc_163.all (tb_ckr 163) = true := by decide +kernel
theorem tb_ky_163 : tb_cky 163 = true := tb_kz_163
set_option maxRecDepth 100000 in
theorem tb_kz_164 : tbc_164.all (tb_ckr 164) = true := by decide +kernel
theorem tb_ky_164 : tb_cky 164 = true := tb_kz_164
set_option maxRecDepth 100000 in
theorem tb_kz_165 : tbc_165.all (tb_ckr 165) = true := by decide +kernel
theorem tb_ky_165 : tb_cky 165 = true := tb_kz_165
set_option maxRecDepth 100000 in
theorem tb_kz_166_0 : tbc_166_0.all (tb_ckr 166) = true := by decide +kernel
set_option maxRecDepth 100000 in
theorem tb_kz_166_1 : tbc_166_1.all (tb_ckr 166) = true := by decide +kernel
theorem tb_ky_166 : tb_cky 166 = true := by
  show (tbc_166_0 ++ tbc_166_1).all (tb_ckr 166) = true
  simp only [List.all_append, tb_kz_166_0, tb_kz_166_1, Bool.and_self]
set_option maxRecDepth 100000 in
theorem tb_kz_167 : tbc_167.all (tb_ckr 167) = true := by decide +kernel
theorem tb_ky_167 : tb_cky 167 = true := tb_kz_167
set_option maxRecDepth 100000 in
theorem tb_kz_168 : tbc_168.all (tb_ckr 168) = true := by decide +kernel
theorem tb_ky_168 : tb_cky 168 = true := tb_kz_168
set_option maxRecDepth 100000 in
theorem tb_kz_169 : tbc_169.all (tb_ckr 169) = true := by decide +kernel
theorem tb_ky_169 : tb_cky 169 = true := tb_kz_169
set_option maxRecDepth 100000 in
theorem tb_kz_170 : tbc_170.all (tb_ckr 170) = true := by decide +kernel
theorem tb_ky_170 : tb_cky 170 = true := tb_kz_170
set_option maxRecDepth 100000 in
theorem tb_kz_171 : tbc_171.all (tb_ckr 171) = true := by decide +kernel
theorem tb_ky_171 : tb_cky 171 = true := tb_kz_171
set_option maxRecDepth 100000 in
theorem tb_kz_172 : tbc_172.all (tb_ckr 172) = true := by decide +kernel
theorem tb_ky_172 : tb_cky 172 = true := tb_kz_172
set_option maxRecDepth 100000 in
theorem tb_kz_173 : tbc_173.all (tb_ckr 173) = true := by decide +kernel
theorem tb_ky_173 : tb_cky 173 = true := tb_kz_173
set_option maxRecDepth 100000 in
theorem tb_kz_174_0 : tbc_174_0.all (tb_ckr 174) = true := by decide +kernel
set_option maxRecDepth 100000 in
theorem tb_kz_174_1 : tbc_174_1.all (tb_ckr 174) = true := by decide +kernel
theorem tb_ky_174 : tb_cky 174 = true := by
  show (tbc_174_0 ++ tbc_174_1).all (tb_ckr 174) = true
  simp only [List.all_append, tb_kz_174_0, tb_kz_174_1, Bool.and_self]
set_option maxRecDepth 100000 in
theorem tb_kz_175_0 : tbc_175_0.all (tb_ckr 175) = true := by decide +kernel
set_option maxRecDepth 100000 in
theorem tb_kz_175_1 : tbc_175_1.all (tb_ckr 175) = true := by decide +kernel
theorem tb_ky_175 : tb_cky 175 = true := by
  show (tbc_175_0 ++ tbc_175_1).all (tb_ckr 175) = true
  simp only [List.all_append, tb_kz_175_0, tb_kz_175_1, Bool.and_self]
set_option maxRecDepth 100000 in
theorem tb_kz_176_0 : tbc_176_0.all (tb_ckr 176) = true := by decide +kernel
set_option maxRecDepth 100000 in
theorem tb_kz_176_1 : tbc_176_1.all (tb_ckr 176) = true := by decide +kernel
theorem tb_ky_176 : tb_cky 176 = true := by
  show (tbc_176_0 ++ tbc_176_1).all (tb_ckr 176) = true
  simp only [List.all_append, tb_kz_176_0, tb_kz_176_1, Bool.and_self]
set_option maxRecDepth 100000 in
theorem tb_kz_177_0 : tbc_177_0.all (tb_ckr 177) = true := by decide +kernel
set_option maxRecDepth 100000 in
theorem tb_kz_177_1 : tbc_177_1.all (tb_ckr 177) = true := by decide +kernel
theorem tb_ky_177 : tb_cky 177 = true := by
  show (tbc_177_0 ++ tbc_177_1).all (tb_ckr 177) = true
  simp only [List.all_append, tb_kz_177_0, tb_kz_177_1, Bool.and_self]
set_option maxRecDepth 100000 in
theorem tb_kz_178 : tbc_178.all (tb_ckr 178) = true := by decide +kernel
theorem tb_ky_178 : tb_cky 178 = true := tb_kz_178
set_option maxRecDepth 100000 in
theorem tb_kz_179 : tbc_179.all (tb_ckr 179) = true := by decide +kernel
theorem tb_ky_179 : tb_cky 179 = true := tb_kz_179
set_option maxRecDepth 100000 in
theorem tb_kz_180 : tbc_180.all (tb_ckr 180) = true := by decide +kernel
theorem tb_ky_180 : tb_cky 180 = true := tb_kz_180
set_option maxRecDepth 100000 in
theorem tb_kz_181 : tbc_181.all (tb_ckr 181) = true := by decide +kernel
theorem tb_ky_181 : tb_cky 181 = true := tb_kz_181
set_option maxRecDepth 100000 in
theorem tb_kz_182_0 : tbc_182_0.all (tb_ckr 182) = true := by decide +kernel
set_option maxRecDepth 100000 in
theorem tb_kz_182_1 : tbc_182_1.all (tb_ckr 182) = true := by decide +kernel
theorem tb_ky_182 : tb_cky 182 = true := by
  show (tbc_182_0 ++ tbc_182_1).all (tb_ckr 182) = true
  simp only [List.all_append, tb_kz_182_0, tb_kz_182_1, Bool.and_self]
set_option maxRecDepth 100000 in
theorem tb_kz_183 : tbc_183.all (tb_ckr 183) = true := by decide +kernel
theorem tb_ky_183 : tb_cky 183 = true := tb_kz_183
set_option maxRecDepth 100000 in
theorem tb_kz_184 : tbc_184.all (tb_ckr 184) = true := by decide +kernel
theorem tb_ky_184 : tb_cky 184 = true := tb_kz_184
set_option maxRecDepth 100000 in
theorem tb_kz_185 : tbc_185.all (tb_ckr 185) = true := by decide +kernel
theorem tb_ky_185 : tb_cky 185 = true := tb_kz_185
set_option maxRecDepth 100000 in
theorem tb_kz_186_0 : tbc_186_0.all (tb_ckr 186) = true := by decide +kernel
set_option maxRecDepth 100000 in
theorem tb_kz_186_1 : tbc_186_1.all (tb_ckr 186) = true := by decide +kernel
theorem tb_ky_186 : tb_cky 186 = true := by
  show (tbc_186_0 ++ tbc_186_1).all (tb_ckr 186) = true
  simp only [List.all_append, tb_kz_186_0, tb_kz_186_1, Bool.and_self]
set_option maxRecDepth 100000 in
theorem tb_kz_187 : tbc_187.all (tb_ckr 187) = true := by decide +kernel
theorem tb_ky_187 : tb_cky 187 = true := tb_kz_187
set_option maxRecDepth 100000 in
theorem tb_kz_188 : tbc_188.all (tb_ckr 188) = true := by decide +kernel
theorem tb_ky_188 : tb_cky 188 = true := tb_kz_188
set_option maxRecDepth 100000 in
theorem tb_kz_189_0 : tbc_189_0.all (tb_ckr 189) = true := by decide +kernel
set_option maxRecDepth 100000 in
theorem tb_kz_189_1 : tbc_189_1.all (tb_ckr 189) = true := by decide +kernel
theorem tb_ky_189 : tb_cky 189 = true := by
  show (tbc_189_0 ++ tbc_189_1).all (tb_ckr 189) = true
  simp only [List.all_append, tb_kz_189_0, tb_kz_189_1, Bool.and_self]
set_option maxRecDepth 100000 in
theorem tb_kz_190 : tbc_190.all (tb_ckr 190) = true := by decide +kernel
theorem tb_ky_190 : tb_cky 190 = true := tb_kz_190
set_option maxRecDepth 100000 in
theorem tb_kz_191_0 : tbc_191_0.all (tb_ckr 191) = true := by decide +kernel
set_option maxRecDepth 100000 in
theorem tb_kz_191_1 : tbc_191_1.all (tb_ckr 191) = true := by decide +kernel
theorem tb_ky_191 : tb_cky 191 = true := by
  show (tbc_191_0 ++ tbc_191_1).all (tb_ckr 191) = true
  simp only [List.all_append, tb_kz_191_0, tb_kz_191_1, Bool.and_self]
set_option maxRecDepth 100000 in
theorem tb_kz_192 : tbc_192.all (tb_ckr 192) = true := by decide +kernel
theorem tb_ky_192 : tb_cky 192 = true := tb_kz_192
set_option maxRecDepth 100000 in
theorem tb_kz_193 : tbc_193.all (tb_ckr 193) = true := by decide +kernel
theorem tb_ky_193 : tb_cky 193 = true := tb_kz_193
set_option maxRecDepth 100000 in
theorem tb_kz_194_0 : tbc_194_0.all (tb_ckr 194) = true := by decide +kernel
set_option maxRecDepth 100000 in
theorem tb_kz_194_1 : tbc_194_1.all (tb_ckr 194) = true := by decide +kernel
theorem tb_ky_194 : tb_cky 194 = true := by
  show (tbc_194_0 ++ tbc_194_1).all (tb_ckr 194) = true
  simp only [List.all_append, tb_kz_194_0, tb_kz_194_1, Bool.and_self]
set_option maxRecDepth 100000 in
theorem tb_kz_195 : tbc_195.all (tb_ckr 195) = true := by decide +kernel
theorem tb_ky_195 : tb_cky 195 = true := tb_kz_195
set_option maxRecDepth 100000 in
theorem tb_kz_196 : tbc_196.all (tb_ckr 196) = true := by decide +kernel
theorem tb_ky_196 : tb_cky 196 = true := tb_kz_196
set_option maxRecDepth 100000 in
theorem tb_kz_197 : tbc_197.all (tb_ckr 197) = true := by decide +kernel
theorem tb_ky_197 : tb_cky 197 = true := tb_kz_197
set_option maxRecDepth 100000 in
theorem tb_kz_198 : tbc_198.all (tb_ckr 198) = true := by decide +kernel
theorem tb_ky_198 : tb_cky 198 = true := tb_kz_198
set_option maxRecDepth 100000 in
theorem tb_kz_199_0 : tbc_199_0.all (tb_ckr 199) = true := by decide +kernel
set_option maxRecDepth 100000 in
theorem tb_kz_199_1 : tbc_199_1.all (tb_ckr 199) = true := by decide +kernel
theorem tb_ky_199 : tb_cky 199 = true := by
  show (tbc_199_0 ++ tbc_199_1).all (tb_ckr 199) = true
  simp only [List.all_append, tb_kz_199_0, tb_kz_199_1, Bool.and_self]
set_option maxRecDepth 100000 in
theorem tb_kz_200_0 : tbc_200_0.all (tb_ckr 200) = true := by decide +kernel
set_option maxRecDepth 100000 in
theorem tb_kz_200_1 : tbc_200_1.all (tb_ckr 200) = true := by decide +kernel
set_option maxRecDepth 100000 in
theorem tb_kz_200_2 : tbc_200_2.all (tb_ckr 200) = true := by decide +kernel
set_option maxRecDepth 100000 in
theorem tb_kz_200_3 : tbc_200_3.all (tb_ckr 200) = true := by decide +kernel
set_option maxRecDepth 100000 in
theorem tb_kz_200_4 : tbc_200_4.all (tb_ckr 200) = true := by decide +kernel
theorem tb_ky_200 : tb_cky 200 = true := by
  show (tbc_200_0 ++ tbc_200_1 ++ tbc_200_2 ++ tbc_200_3 ++ tbc_200_4).all (tb_ckr 200) = true
  simp only [List.all_append, tb_kz_200_0, tb_kz_200_1, tb_kz_200_2, tb_kz_200_3, tb_kz_200_4, Bool.and_self]
set_option maxRecDepth 100000 in
theorem tb_kz_201 : tbc_201.all (tb_ckr 201) = true := by decide +kernel
theorem tb_ky_201 : tb_cky 201 = true := tb_kz_201
set_option maxRecDepth 100000 in
theorem tb_kz_202 : tbc_202.all (tb_ckr 202) = true := by decide +kernel
theorem tb_ky_202 : tb_cky 202 = true := tb_kz_202
set_option maxRecDepth 100000 in
theorem tb_kz_203 : tbc_203.all (tb_ckr 203) = true := by decide +kernel
theorem tb_ky_203 : tb_cky 203 = true := tb_kz_203
set_option maxRecDepth 100000 in
theorem tb_kz_204_0 : tbc_204_0.all (tb_ckr 204) = true := by decide +kernel
set_option maxRecDepth 100000 in
theorem tb_kz_204_1 : tbc_204_1.all (tb_ckr 204) = true := by decide +kernel
set_option maxRecDepth 100000 in
theorem tb_kz_204_2 : tbc_204_2.all (tb_ckr 204) = true := by decide +kernel
set_option maxRecDepth 100000 in
theorem tb_kz_204_3 : tbc_204_3.all (tb_ckr 204) = true := by decide +kernel
theorem tb_ky_204 : tb_cky 204 = true := by
  show (tbc_204_0 ++ tbc_204_1 ++ tbc_204_2 ++ tbc_204_3).all (tb_ckr 204) = true
  simp only [List.all_append, tb_kz_204_0, tb_kz_204_1, tb_kz_204_2, tb_kz_204_3, Bool.and_self]
set_option maxRecDepth 100000 in
theorem tb_kz_205 : tbc_205.all (tb_ckr 205) = true := by decide +kernel
theorem tb_ky_205 : tb_cky 205 = true := tb_kz_205
set_option maxRecDepth 100000 in
theorem tb_kz_206 : tbc_206.all (tb_ckr 206) = true := by decide +kernel
theorem tb_ky_206 : tb_cky 206 = true := tb_kz_206
set_option maxRecDepth 100000 in
theorem tb_kz_207 : tbc_207.all (tb_ckr 207) = true := by decide +kernel
theorem tb_ky_207 : tb_cky 207 = true := tb_kz_207
set_option maxRecDepth 100000 in
theorem tb_kz_208_0 : tbc_208_0.all (tb_ckr 208) = true := by decide +kernel
set_option maxRecDepth 100000 in
theorem tb_kz_208_1 : tbc_208_1.all (tb_ckr 208) = true := by decide +kernel
set_option maxRecDepth 100000 in
theorem tb_kz_208_2 : tbc_208_2.all (tb_ckr 208) = true := by decide +kernel
set_option maxRecDepth 100000 in
theorem tb_kz_208_3 : tbc_208_3.all (tb_ckr 208) = true := by decide +kernel
theorem tb_ky_208 : tb_cky 208 = true := by
  show (tbc_208_0 ++ tbc_208_1 ++ tbc_208_2 ++ tbc_208_3).all (tb_ckr 208) = true
  simp only [List.all_append, tb_kz_208_0, tb_kz_208_1, tb_kz_208_2, tb_kz_208_3, Bool.and_self]
set_option maxRecDepth 100000 in
theorem tb_kz_209 : tbc_209.all (tb_ckr 209) = true := by decide +kernel
theorem tb_ky_209 : tb_cky 209 = true := tb_kz_209
set_option maxRecDepth 100000 in
theorem tb_kz_210 : tbc_210.all (tb_ckr 210) = true := by decide +kernel
theorem tb_ky_210 : tb_cky 210 = true := tb_kz_210
set_option maxRecDepth 100000 in
theorem tb_kz_211 : tbc_211.all (tb_ckr 211) = true := by decide +kernel
theorem tb_ky_211 : tb_cky 211 = true := tb_kz_211
set_option maxRecDepth 100000 in
theorem tb_kz_212_0 : tbc_212_0.all (tb_ckr 212) = true := by decide +kernel
set_option maxRecDepth 100000 in
theorem tb_kz_212_1 : tbc_212_1.all (tb_ckr 212) = true := by decide +kernel
theorem tb_ky_212 : tb_cky 212 = true := by
  show (tbc_212_0 ++ tbc_212_1).all (tb_ckr 212) = true
  simp only [List.all_append, tb_kz_212_0, tb_kz_212_1, Bool.and_self]
set_option maxRecDepth 100000 in
theorem tb_kz_213 : tbc_213.all (tb_ckr 213) = true := by decide +kernel
theorem tb_ky_213 : tb_cky 213 = true := tb_kz_213
set_option maxRecDepth 100000 in
theorem tb_kz_214 : tbc_214.all (tb_ckr 214) = true := by decide +kernel
theorem tb_ky_214 : tb_cky 214 = true := tb_kz_214
set_option maxRecDepth 100000 in
theorem tb_kz_215 : tbc_215.all (tb_ckr 215) = true := by decide +kernel
theorem tb_ky_215 : tb_cky 215 = true := tb_kz_215
set_option maxRecDepth 100000 in
theorem tb_kz_216 : tbc_216.all (tb_ckr 216) = true := by decide +kernel
theorem tb_ky_216 : tb_cky 216 = true := tb_kz_216
set_option maxRecDepth 100000 in
theorem tb_kz_217 : tbc_217.all (tb_ckr 217) = true := by decide +kernel
theorem tb_ky_217 : tb_cky 217 = true := tb_kz_217
set_option maxRecDepth 100000 in
theorem tb_kz_218_0 : tbc_218_0.all (tb_ckr 218) = true := by decide +kernel
set_option maxRecDepth 100000 in
theorem tb_kz_218_1 : tbc_218_1.all (tb_ckr 218) = true := by decide +kernel
theorem tb_ky_218 : tb_cky 218 = true := by
  show (tbc_218_0 ++ tbc_218_1).all (tb_ckr 218) = true
  simp only [List.all_append, tb_kz_218_0, tb_kz_218_1, Bool.and_self]
set_option maxRecDepth 100000 in
theorem tb_kz_219_0 : tbc_219_0.all (tb_ckr 219) = true := by decide +kernel
set_option maxRecDepth 100000 in
theorem tb_kz_219_1 : tbc_219_1.all (tb_ckr 219) = true := by decide +kernel
theorem tb_ky_219 : tb_cky 219 = true := by
  show (tbc_219_0 ++ tbc_219_1).all (tb_ckr 219) = true
  simp only [List.all_append, tb_kz_219_0, tb_kz_219_1, Bool.and_self]
set_option maxRecDepth 100000 in
theorem tb_kz_220_0 : tbc_220_0.all (tb_ckr 220) = true := by decide +kernel
set_option maxRecDepth 100000 in
theorem tb_kz_220_1 : tbc_220_1.all (tb_ckr 220) = true := by decide +kernel
theorem tb_ky_220 : tb_cky 220 = true := by
  show (tbc_220_0 ++ tbc_220_1).all (tb_ckr 220) = true
  simp only [List.all_append, tb_kz_220_0, tb_kz_220_1, Bool.and_self]
set_option maxRecDepth 100000 in
theorem tb_kz_221_0 : tbc_221_0.all (tb_ckr 221) = true := by decide +kernel
set_option maxRecDepth 100000 in
theorem tb_kz_221_1 : tbc_221_1.all (tb_ckr 221) = true := by decide +kernel
theorem tb_ky_221 : tb_cky 221 = true := by
  show (tbc_221_0 ++ tbc_221_1).all (tb_ckr 221) = true
  simp only [List.all_append, tb_kz_221_0, tb_kz_221_1, Bool.and_self]
set_option maxRecDepth 100000 in
theorem tb_kz_222_0 : tbc_222_0.all (tb_ckr 222) = true := by decide +kernel
set_option maxRecDepth 100000 in
theorem tb_kz_222_1 : tbc_222_1.all (tb_ckr 222) = true := by decide +kernel
theorem tb_ky_222 : tb_cky 222 = true := by
  show (tbc_222_0 ++ tbc_222_1).all (tb_ckr 222) = true
  simp only [List.all_append, tb_kz_222_0, tb_kz_222_1, Bool.and_self]
set_option maxRecDepth 100000 in
theorem tb_kz_223_0 : tbc_223_0.all (tb_ckr 223) = true := by decide +kernel
set_option maxRecDepth 100000 in
theorem tb_kz_223_1 : tbc_223_1.all (tb_ckr 223) = true := by decide +kernel
theorem tb_ky_223 : tb_cky 223 = true := by
  show (tbc_223_0 ++ tbc_223_1).all (tb_ckr 223) = true
  simp only [List.all_append, tb_kz_223_0, tb_kz_223_1, Bool.and_self]
set_option maxRecDepth 100000 in
theorem tb_kz_224 : tbc_224.all (tb_ckr 224) = true := by decide +kernel
theorem tb_ky_224 : tb_cky 224 = true := tb_kz_224
set_option maxRecDepth 100000 in
theorem tb_kz_225_0 : tbc_225_0.all (tb_ckr 225) = true := by decide +kernel
set_option maxRecDepth 100000 in
theorem tb_kz_225_1 : tbc_225_1.all (tb_ckr 225) = true := by decide +kernel
theorem tb_ky_225 : tb_cky 225 = true := by
  show (tbc_225_0 ++ tbc_225_1).all (tb_ckr 225) = true
  simp only [List.all_append, tb_kz_225_0, tb_kz_225_1, Bool.and_self]
set_option maxRecDepth 100000 in
theorem tb_kz_226_0 : tbc_226_0.all (tb_ckr 226) = true := by decide +kernel
set_option maxRecDepth 100000 in
theorem tb_kz_226_1 : tbc_226_1.all (tb_ckr 226) = true := by decide +kernel
theorem tb_ky_226 : tb_cky 226 = true := by
  show (tbc_226_0 ++ tbc_226_1).all (tb_ckr 226) = true
  simp only [List.all_append, tb_kz_226_0, tb_kz_226_1, Bool.and_self]
set_option maxRecDepth 100000 in
theorem tb_kz_227 : tbc_227.all (tb_ckr 227) = true := by decide +kernel
theorem tb_ky_227 : tb_cky 227 = true := tb_kz_227
set_option maxRecDepth 100000 in
theorem tb_kz_228_0 : tbc_228_0.all (tb_ckr 228) = true := by decide +kernel
set_option maxRecDepth 100000 in
theorem tb_kz_228_1 : tbc_228_1.all (tb_ckr 228) = true := by decide +kernel
theorem tb_ky_228 : tb_cky 228 = true := by
  show (tbc_228_0 ++ tbc_228_1).all (tb_ckr 228) = true
  simp only [List.all_append, tb_kz_228_0, tb_kz_228_1, Bool.and_self]
set_option maxRecDepth 100000 in
theorem tb_kz_229_0 : tbc_229_0.all (tb_ckr 229) = true := by decide +kernel
set_option maxRecDepth 100000 in
theorem tb_kz_229_1 : tbc_229_1.all (tb_ckr 229) = true := by decide +kernel
theorem tb_ky_229 : tb_cky 229 = true := by
  show (tbc_229_0 ++ tbc_229_1).all (tb_ckr 229) = true
  simp only [List.all_append, tb_kz_229_0, tb_kz_229_1, Bool.and_self]
set_option maxRecDepth 100000 in
theorem tb_kz_230 : tbc_230.all (tb_ckr 230) = true := by decide +kernel
theorem tb_ky_230 : tb_cky 230 = true := tb_kz_230
set_option maxRecDepth 100000 in
theorem tb_kz_231 : tbc_231.all (tb_ckr 231) = true := by decide +kernel
theorem tb_ky_231 : tb_cky 231 = true := tb_kz_231
set_option maxRecDepth 100000 in
theorem tb_kz_232 : tbc_232.all (tb_ckr 232) = true := by decide +kernel
theorem tb_ky_232 : tb_cky 232 = true := tb_kz_232
set_option maxRecDepth 100000 in
theorem tb_kz_233 : tbc_233.all (tb_ckr 233) = true := by decide +kernel
theorem tb_ky_233 : tb_cky 233 = true := tb_kz_233
set_option maxRecDepth 100000 in
theorem tb_kz_234_0 : tbc_234_0.all (tb_ckr 234) = true := by decide +kernel
set_option maxRecDepth 100000 in
theorem tb_kz_234_1 : tbc_234_1.all (tb_ckr 234) = true := by decide +kernel
theorem tb_ky_234 : tb_cky 234 = true := by
  show (tbc_234_0 ++ tbc_234_1).all (tb_ckr 234) = true
  simp only [List.all_append, tb_kz_234_0, tb_kz_234_1, Bool.and_self]
set_option maxRecDepth 100000 in
theorem tb_kz_235_0 : tbc_235_0.all (tb_ckr 235) = true := by decide +kernel
set_option maxRecDepth 100000 in
theorem tb_kz_235_1 : tbc_235_1.all (tb_ckr 235) = true := by decide +kernel
set_option maxRecDepth 100000 in
theorem tb_kz_235_2 : tbc_235_2.all (tb_ckr 235) = true := by decide +kernel
set_option maxRecDepth 100000 in
theorem tb_kz_235_3 : tbc_235_3.all (tb_ckr 235) = true := by decide +kernel
set_option maxRecDepth 100000 in
theorem tb_kz_235_4 : tbc_235_4.all (tb_ckr 235) = true := by decide +kernel
set_option maxRecDepth 100000 in
theorem tb_kz_235_5 : tbc_235_5.all (tb_ckr 235) = true := by decide +kernel
set_option maxRecDepth 100000 in
theorem tb_kz_235_6 : tbc_235_6.all (tb_ckr 235) = true := by decide +kernel
set_option maxRecDepth 100000 in
theorem tb_kz_235_7 : tbc_235_7.all (tb_ckr 235) = true := by decide +kernel
theorem tb_ky_235 : tb_cky 235 = true := by
  show (tbc_235_0 ++ tbc_235_1 ++ tbc_235_2 ++ tbc_235_3 ++ tbc_235_4 ++ tbc_235_5 ++ tbc_235_6 ++ tbc_235_7).all (tb_ckr 235) = true
  simp only [List.all_append, tb_kz_235_0, tb_kz_235_1, tb_kz_235_2, tb_kz_235_3, tb_kz_235_4, tb_kz_235_5, tb_kz_235_6, tb_kz_235_7, Bool.and_self]
set_option maxRecDepth 100000 in
theorem tb_kz_236_0 : tbc_236_0.all (tb_ckr 236) = true := by decide +kernel
set_option maxRecDepth 100000 in
theorem tb_kz_236_1 : tbc_236_1.all (tb_ckr 236) = true := by decide +kernel
theorem tb_ky_236 : tb_cky 236 = true := by
  show (tbc_236_0 ++ tbc_236_1).all (tb_ckr 236) = true
  simp only [List.all_append, tb_kz_236_0, tb_kz_236_1, Bool.and_self]
set_option maxRecDepth 100000 in
theorem tb_kz_237_0 : tbc_237_0.all (tb_ckr 237) = true := by decide +kernel
set_option maxRecDepth 100000 in
theorem tb_kz_237_1 : tbc_237_1.all (tb_ckr 237) = true := by decide +kernel
theorem tb_ky_237 : tb_cky 237 = true := by
  show (tbc_237_0 ++ tbc_237_1).all (tb_ckr 237) = true
  simp only [List.all_append, tb_kz_237_0, tb_kz_237_1, Bool.and_self]
set_option maxRecDepth 100000 in
theorem tb_kz_238 : tbc_238.all (tb_ckr 238) = true := by decide +kernel
theorem tb_ky_238 : tb_cky 238 = true := tb_kz_238
set_option maxRecDepth 100000 in
theorem tb_kz_239 : tbc_239.all (tb_ckr 239) = true := by decide +kernel
theorem tb_ky_239 : tb_cky 239 = true := tb_kz_239
set_option maxRecDepth 100000 in
theorem tb_kz_240 : tbc_240.all (tb_ckr 240) = true := by decide +kernel
theorem tb_ky_240 : tb_cky 240 = true := tb_kz_240
set_option maxRecDepth 100000 in
theorem tb_kz_241 : tbc_241.all (tb_ckr 241) = true := by decide +kernel
theorem tb_ky_241 : tb_cky 241 = true := tb_kz_241
set_option maxRecDepth 100000 in
theorem tb_kz_242 : tbc_242.all (tb_ckr 242) = true := by decide +kernel
theorem tb_ky_242 : tb_cky 242 = true := tb_kz_242
set_option maxRecDepth 100000 in
theorem tb_kz_243 : tbc_243.all (tb_ckr 243) = true := by decide +kernel
theorem tb_ky_243 : tb_cky 243 = true := tb_kz_243
set_option maxRecDepth 100000 in
theorem tb_kz_244 : tbc_244.all (tb_ckr 244) = true := by decide +kernel
theorem tb_ky_244 : tb_cky 244 = true := tb_kz_244
set_option maxRecDepth 100000 in
theorem tb_kz_245 : tbc_245.all (tb_ckr 245) = true := by decide +kernel
theorem tb_ky_245 : tb_cky 245 = true := tb_kz_245
set_option maxRecDepth 100000 in
theorem tb_kz_246 : tbc_246.all (tb_ckr 246) = true := by decide +kernel
theorem tb_ky_246 : tb_cky 246 = true := tb_kz_246
set_option maxRecDepth 100000 in
theorem tb_kz_247_0 : tbc_247_0.all (tb_ckr 247) = true := by decide +kernel
set_option maxRecDepth 100000 in
theorem tb_kz_247_1 : tbc_247_1.all (tb_ckr 247) = true := by decide +kernel
set_option maxRecDepth 100000 in
theorem tb_kz_247_2 : tbc_247_2.all (tb_ckr 247) = true := by decide +kernel
theorem tb_ky_247 : tb_cky 247 = true := by
  show (tbc_247_0 ++ tbc_247_1 ++ tbc_247_2).all (tb_ckr 247) = true
  simp only [List.all_append, tb_kz_247_0, tb_kz_247_1, tb_kz_247_2, Bool.and_self]
set_option maxRecDepth 100000 in
theorem tb_kz_248 : tbc_248.all (tb_ckr 248) = true := by decide +kernel
theorem tb_ky_248 : tb_cky 248 = true := tb_kz_248
set_option maxRecDepth 100000 in
theorem tb_kz_249 : tbc_249.all (tb_ckr 249) = true := by decide +kernel
theorem tb_ky_249 : tb_cky 249 = true := tb_kz_249
set_option maxRecDepth 100000 in
theorem tb_kz_250 : tbc_250.all (tb_ckr 250) = true := by decide +kernel
theorem tb_ky_250 : tb_cky 250 = true := tb_kz_250
set_option maxRecDepth 100000 in
theorem tb_kz_251 : tbc_251.all (tb_ckr 251) = true := by decide +kernel
theorem tb_ky_251 : tb_cky 251 = true := tb_kz_251
set_option maxRecDepth 100000 in
theorem tb_kz_252_0 : tbc_252_0.all (tb_ckr 252) = true := by decide +kernel
set_option maxRecDepth 100000 in
theorem tb_kz_252_1 : tbc_252_1.all (tb_ckr 252) = true := by decide +kernel
set_option maxRecDepth 100000 in
theorem tb_kz_252_2 : tbc_252_2.all (tb_ckr 252) = true := by decide +kernel
theorem tb_ky_252 : tb_cky 252 = true := by
  show (tbc_252_0 ++ tbc_252_1 ++ tbc_252_2).all (tb_ckr 252) = true
  simp only [List.all_append, tb_kz_252_0, tb_kz_252_1, tb_kz_252_2, Bool.and_self]
set_option maxRecDepth 100000 in
theorem tb_kz_253_0 : tbc_253_0.all (tb_ckr 253) = true := by decide +kernel
set_option maxRecDepth 100000 in
theorem tb_kz_253_1 : tbc_253_1.all (tb_ckr 253) = true := by decide +kernel
set_option maxRecDepth 100000 in
theorem tb_kz_253_2 : tbc_253_2.all (tb_ckr 253) = true := by decide +kernel
theorem tb_ky_253 : tb_cky 253 = true := by
  show (tbc_253_0 ++ tbc_253_1 ++ tbc_253_2).all (tb_ckr 253) = true
  simp only [List.all_append, tb_kz_253_0, tb_kz_253_1, tb_kz_253_2, Bool.and_self]
set_option maxRecDepth 100000 in
theorem tb_kz_254_0 : tbc_254_0.all (tb_ckr 254) = true := by decide +kernel
set_option maxRecDepth 100000 in
theorem tb_kz_254_1 : tbc_254_1.all (tb_ckr 254) = true := by decide +kernel
set_option maxRecDepth 100000 in
theorem tb_kz_254_2 : tbc_254_2.all (tb_ckr 254) = true := by decide +kernel
theorem tb_ky_254 : tb_cky 254 = true := by
  show (tbc_254_0 ++ tbc_254_1 ++ tbc_254_2).all (tb_ckr 254) = true
  simp only [List.all_append, tb_kz_254_0, tb_kz_254_1, tb_kz_254_2, Bool.and_self]
set_option maxRecDepth 100000 in
theorem tb_kz_255 : tbc_255.all (tb_ckr 255) = true := by decide +kernel
theorem tb_ky_255 : tb_cky 255 = true := tb_kz_255
set_option maxRecDepth 100000 in
theorem tb_kz_256 : tbc_256.all (tb_ckr 256) = true := by decide +kernel
theorem tb_ky_256 : tb_cky 256 = true := tb_kz_256
set_option maxRecDepth 100000 in
theorem tb_kz_257 : tbc_257.all (tb_ckr 257) = true := by decide +kernel
theorem tb_ky_257 : tb_cky 257 = true := tb_kz_257
set_option maxRecDepth 100000 in
theorem tb_kz_258 : tbc_258.all (tb_ckr 258) = true := by decide +kernel
theorem tb_ky_258 : tb_cky 258 = true := tb_kz_258
set_option maxRecDepth 100000 in
theorem tb_kz_259 : tbc_259.all (tb_ckr 259) = true := by decide +kernel
theorem tb_ky_259 : tb_cky 259 = true := tb_kz_259
set_option maxRecDepth 100000 in
theorem tb_kz_260 : tbc_260.all (tb_ckr 260) = true := by decide +kernel
theorem tb_ky_260 : tb_cky 260 = true := tb_kz_260
set_option maxRecDepth 100000 in
theorem tb_kz_261 : tbc_261.all (tb_ckr 261) = true := by decide +kernel
theorem tb_ky_261 : tb_cky 261 = true := tb_kz_261
set_option maxRecDepth 100000 in
theorem tb_kz_262 : tbc_262.all (tb_ckr 262) = true := by decide +kernel
theorem tb_ky_262 : tb_cky 262 = true := tb_kz_262
set_option maxRecDepth 100000 in
theorem tb_kz_263 : tbc_263.all (tb_ckr 263) = true := by decide +kernel
theorem tb_ky_263 : tb_cky 263 = true := tb_kz_263
set_option maxRecDepth 100000 in
theorem tb_kz_264 : tbc_264.all (tb_ckr 264) = true := by decide +kernel
theorem tb_ky_264 : tb_cky 264 = true := tb_kz_264
set_option maxRecDepth 100000 in
theorem tb_kz_265 : tbc_265.all (tb_ckr 265) = true := by decide +kernel
theorem tb_ky_265 : tb_cky 265 = true := tb_kz_265
set_option maxRecDepth 100000 in
theorem tb_kz_266 : tbc_266.all (tb_ckr 266) = true := by decide +kernel
theorem tb_ky_266 : tb_cky 266 = true := tb_kz_266
set_option maxRecDepth 100000 in
theorem tb_kz_267_0 : tbc_267_0.all (tb_ckr 267) = true := by decide +kernel
set_option maxRecDepth 100000 in
theorem tb_kz_267_1 : tbc_267_1.all (tb_ckr 267) = true := by decide +kernel
theorem tb_ky_267 : tb_cky 267 = true := by
  show (tbc_267_0 ++ tbc_267_1).all (tb_ckr 267) = true
  simp only [List.all_append, tb_kz_267_0, tb_kz_267_1, Bool.and_self]
set_option maxRecDepth 100000 in
theorem tb_kz_268 : tbc_268.all (tb_ckr 268) = true := by decide +kernel
theorem tb_ky_268 : tb_cky 268 = true := tb_kz_268
set_option maxRecDepth 100000 in
theorem tb_kz_269 : tbc_269.all (tb_ckr 269) = true := by decide +kernel
theorem tb_ky_269 : tb_cky 269 = true := tb_kz_269
set_option maxRecDepth 100000 in
theorem tb_kz_270 : tbc_270.all (tb_ckr 270) = true := by decide +kernel
theorem tb_ky_270 : tb_cky 270 = true := tb_kz_270
set_option maxRecDepth 100000 in
theorem tb_kz_271_0 : tbc_271_0.all (tb_ckr 271) = true := by decide +kernel
set_option maxRecDepth 100000 in
theorem tb_kz_271_1 : tbc_271_1.all (tb_ckr 271) = true := by decide +kernel
theorem tb_ky_271 : tb_cky 271 = true := by
  show (tbc_271_0 ++ tbc_271_1).all (tb_ckr 271) = true
  simp only [List.all_append, tb_kz_271_0, tb_kz_271_1, Bool.and_self]
set_option maxRecDepth 100000 in
theorem tb_kz_272_0 : tbc_272_0.all (tb_ckr 272) = true := by decide +kernel
set_option maxRecDepth 100000 in
theorem tb_kz_272_1 : tbc_272_1.all (tb_ckr 272) = true := by decide +kernel
set_option maxRecDepth 100000 in
theorem tb_kz_272_2 : tbc_272_2.all (tb_ckr 272) = true := by decide +kernel
theorem tb_ky_272 : tb_cky 272 = true := by
  show (tbc_272_0 ++ tbc_272_1 ++ tbc_272_2).all (tb_ckr 272) = true
  simp only [List.all_append, tb_kz_272_0, tb_kz_272_1, tb_kz_272_2, Bool.and_self]
set_option maxRecDepth 100000 in
theorem tb_kz_273_0 : tbc_273_0.all (tb_ckr 273) = true := by decide +kernel
set_option maxRecDepth 100000 in
theorem tb_kz_273_1 : tbc_273_1.all (tb_ckr 273) = true := by decide +kernel
theorem tb_ky_273 : tb_cky 273 = true := by
  show (tbc_273_0 ++ tbc_273_1).all (tb_ckr 273) = true
  simp only [List.all_append, tb_kz_273_0, tb_kz_273_1, Bool.and_self]
set_option maxRecDepth 100000 in
theorem tb_kz_274_0 : tbc_274_0.all (tb_ckr 274) = true := by decide +kernel
set_option maxRecDepth 100000 in
theorem tb_kz_274_1 : tbc_274_1.all (tb_ckr 274) = true := by decide +kernel
theorem tb_ky_274 : tb_cky 274 = true := by
  show (tbc_274_0 ++ tbc_274_1).all (tb_ckr 274) = true
  simp only [List.all_append, tb_kz_274_0, tb_kz_274_1, Bool.and_self]
set_option maxRecDepth 100000 in
theorem tb_kz_275_0 : tbc_275_0.all (tb_ckr 275) = true := by decide +kernel
set_option maxRecDepth 100000 in
theorem tb_kz_275_1 : tbc_275_1.all (tb_ckr 275) = true := by decide +kernel
theorem tb_ky_275 : tb_cky 275 = true := by
  show (tbc_275_0 ++ tbc_275_1).all (tb_ckr 275) = true
  simp only [List.all_append, tb_kz_275_0, tb_kz_275_1, Bool.and_self]
set_option maxRecDepth 100000 in
theorem tb_kz_276_0 : tbc_276_0.all (tb_ckr 276) = true := by decide +kernel
set_option maxRecDepth 100000 in
theorem tb_kz_276_1 : tbc_276_1.all (tb_ckr 276) = true := by decide +kernel
theorem tb_ky_276 : tb_cky 276 = true := by
  show (tbc_276_0 ++ tbc_276_1).all (tb_ckr 276) = true
  simp only [List.all_append, tb_kz_276_0, tb_kz_276_1, Bool.and_self]
set_option maxRecDepth 100000 in
theorem tb_kz_277_0 : tbc_277_0.all (tb_ckr 277) = true := by decide +kernel
set_option maxRecDepth 100000 in
theorem tb_kz_277_1 : tbc_277_1.all (tb_ckr 277) = true := by decide +kernel
set_option maxRecDepth 100000 in
theorem tb_kz_277_2 : tbc_277_2.all (tb_ckr 277) = true := by decide +kernel
theorem tb_ky_277 : tb_cky 277 = true := by
  show (tbc_277_0 ++ tbc_277_1 ++ tbc_277_2).all (tb_ckr 277) = true
  simp only [List.all_append, tb_kz_277_0, tb_kz_277_1, tb_kz_277_2, Bool.and_self]
set_option maxRecDepth 100000 in
theorem tb_kz_278 : tbc_278.all (tb_ckr 278) = true := by decide +kernel
theorem tb_ky_278 : tb_cky 278 = true := tb_kz_278
set_option maxRecDepth 100000 in
theorem tb_kz_279 : tbc_279.all (tb_ckr 279) = true := by decide +kernel
theorem tb_ky_279 : tb_cky 279 = true := tb_kz_279
set_option maxRecDepth 100000 in
theorem tb_kz_280_0 : tbc_280_0.all (tb_ckr 280) = true := by decide +kernel
set_option maxRecDepth 100000 in
theorem tb_kz_280_1 : tbc_280_1.all (tb_ckr 280) = true := by decide +kernel
set_option maxRecDepth 100000 in
theorem tb_kz_280_2 : tbc_280_2.all (tb_ckr 280) = true := by decide +kernel
theorem tb_ky_280 : tb_cky 280 = true := by
  show (tbc_280_0 ++ tbc_280_1 ++ tbc_280_2).all (tb_ckr 280) = true
  simp only [List.all_append, tb_kz_280_0, tb_kz_280_1, tb_kz_280_2, Bool.and_self]
set_option maxRecDepth 100000 in
theorem tb_kz_281 : tbc_281.all (tb_ckr 281) = true := by decide +kernel
theorem tb_ky_281 : tb_cky 281 = true := tb_kz_281
set_option maxRecDepth 100000 in
theorem tb_kz_282 : tbc_282.all (tb_ckr 282) = true := by decide +kernel
theorem tb_ky_282 : tb_cky 282 = true := tb_kz_282
set_option maxRecDepth 100000 in
theorem tb_kz_283_0 : tbc_283_0.all (tb_ckr 283) = true := by decide +kernel
set_option maxRecDepth 100000 in
theorem tb_kz_283_1 : tbc_283_1.all (tb_ckr 283) = true := by decide +kernel
theorem tb_ky_283 : tb_cky 283 = true := by
  show (tbc_283_0 ++ tbc_283_1).all (tb_ckr 283) = true
  simp only [List.all_append, tb_kz_283_0, tb_kz_283_1, Bool.and_self]
set_option maxRecDepth 100000 in
theorem tb_kz_284_0 : tbc_284_0.all (tb_ckr 284) = true := by decide +kernel
set_option maxRecDepth 100000 in
theorem tb_kz_284_1 : tbc_284_1.all (tb_ckr 284) = true := by decide +kernel
theorem tb_ky_284 : tb_cky 284 = true := by
  show (tbc_284_0 ++ tbc_284_1).all (tb_ckr 284) = true
  simp only [List.all_append, tb_kz_284_0, tb_kz_284_1, Bool.and_self]
set_option maxRecDepth 100000 in
theorem tb_kz_285_0 : tbc_285_0.all (tb_ckr 285) = true := by decide +kernel
set_option maxRecDepth 100000 in
theorem tb_kz_285_1 : tbc_285_1.all (tb_ckr 285) = true := by decide +kernel
theorem tb_ky_285 : tb_cky 285 = true := by
  show (tbc_285_0 ++ tbc_285_1).all (tb_ckr 285) = true
  simp only [List.all_append, tb_kz_285_0, tb_kz_285_1, Bool.and_self]
set_option maxRecDepth 100000 in
theorem tb_kz_286 : tbc_286.all (tb_ckr 286) = true := by decide +kernel
theorem tb_ky_286 : tb_cky 286 = true := tb_kz_286
set_option maxRecDepth 100000 in
theorem tb_kz_287 : tbc_287.all (tb_ckr 287) = true := by decide +kernel
theorem tb_ky_287 : tb_cky 287 = true := tb_kz_287
set_option maxRecDepth 100000 in
theorem tb_kz_288_0 : tbc_288_0.all (tb_ckr 288) = true := by decide +kernel
set_option maxRecDepth 100000 in
theorem tb_kz_288_1 : tbc_288_1.all (tb_ckr 288) = true := by decide +kernel
theorem tb_ky_288 : tb_cky 288 = true := by
  show (tbc_288_0 ++ tbc_288_1).all (tb_ckr 288) = true
  simp only [List.all_append, tb_kz_288_0, tb_kz_288_1, Bool.and_self]
set_option maxRecDepth 100000 in
theorem tb_kz_289 : tbc_289.all (tb_ckr 289) = true := by decide +kernel
theorem tb_ky_289 : tb_cky 289 = true := tb_kz_289
set_option maxRecDepth 100000 in
theorem tb_kz_290_0 : tbc_290_0.all (tb_ckr 290) = true := by decide +kernel
set_option maxRecDepth 100000 in
theorem tb_kz_290_1 : tbc_290_1.all (tb_ckr 290) = true := by decide +kernel
set_option maxRecDepth 100000 in
theorem tb_kz_290_2 : tbc_290_2.all (tb_ckr 290) = true := by decide +kernel
set_option maxRecDepth 100000 in
theorem tb_kz_290_3 : tbc_290_3.all (tb_ckr 290) = true := by decide +kernel
set_option maxRecDepth 100000 in
theorem tb_kz_290_4 : tbc_290_4.all (tb_ckr 290) = true := by decide +kernel
set_option maxRecDepth 100000 in
theorem tb_kz_290_5 : tbc_290_5.all (tb_ckr 290) = true := by decide +kernel
set_option maxRecDepth 100000 in
theorem tb_kz_290_6 : tbc_290_6.all (tb_ckr 290) = true := by decide +kernel
theorem tb_ky_290 : tb_cky 290 = true := by
  show (tbc_290_0 ++ tbc_290_1 ++ tbc_290_2 ++ tbc_290_3 ++ tbc_290_4 ++ tbc_290_5 ++ tbc_290_6).all (tb_ckr 290) = true
  simp only [List.all_append, tb_kz_290_0, tb_kz_290_1, tb_kz_290_2, tb_kz_290_3, tb_kz_290_4, tb_kz_290_5, tb_kz_290_6, Bool.and_self]
set_option maxRecDepth 100000 in
theorem tb_kz_291 : tbc_291.all (tb_ckr 291) = true := by decide +kernel
theorem tb_ky_291 : tb_cky 291 = true := tb_kz_291
set_option maxRecDepth 100000 in
theorem tb_kz_292 : tbc_292.all (tb_ckr 292) = true := by decide +kernel
theorem tb_ky_292 : tb_cky 292 = true := tb_kz_292
set_option maxRecDepth 100000 in
theorem tb_kz_293 : tbc_293.all (tb_ckr 293) = true := by decide +kernel
theorem tb_ky_293 : tb_cky 293 = true := tb_kz_293
set_option maxRecDepth 100000 in
theorem tb_kz_294 : tbc_294.all (tb_ckr 294) = true := by decide +kernel
theorem tb_ky_294 : tb_cky 294 = true := tb_kz_294
set_option maxRecDepth 100000 in
theorem tb_kz_295 : tbc_295.all (tb_ckr 295) = true := by decide +kernel
theorem tb_ky_295 : tb_cky 295 = true := tb_kz_295
set_option maxRecDepth 100000 in
theorem tb_kz_296_0 : tbc_296_0.all (tb_ckr 296) = true := by decide +kernel
set_option maxRecDepth 100000 in
theorem tb_kz_296_1 : tbc_296_1.all (tb_ckr 296) = true := by decide +kernel
set_option maxRecDepth 100000 in
theorem tb_kz_296_2 : tbc_296_2.all (tb_ckr 296) = true := by decide +kernel
set_option maxRecDepth 100000 in
theorem tb_kz_296_3 : tbc_296_3.all (tb_ckr 296) = true := by decide +kernel
set_option maxRecDepth 100000 in
theorem tb_kz_296_4 : tbc_296_4.all (tb_ckr 296) = true := by decide +kernel
set_option maxRecDepth 100000 in
theorem tb_kz_296_5 : tbc_296_5.all (tb_ckr 296) = true := by decide +kernel
theorem tb_ky_296 : tb_cky 296 = true := by
  show (tbc_296_0 ++ tbc_296_1 ++ tbc_296_2 ++ tbc_296_3 ++ tbc_296_4 ++ tbc_296_5).all (tb_ckr 296) = true
  simp only [List.all_append, tb_kz_296_0, tb_kz_296_1, tb_kz_296_2, tb_kz_296_3, tb_kz_296_4, tb_kz_296_5, Bool.and_self]
set_option maxRecDepth 100000 in
theorem tb_kz_297 : tbc_297.all (tb_ckr 297) = true := by decide +kernel
theorem tb_ky_297 : tb_cky 297 = true := tb_kz_297
set_option maxRecDepth 100000 in
theorem tb_kz_298_0 : tbc_298_0.all (tb_ckr 298) = true := by decide +kernel
set_option maxRecDepth 100000 in
theorem tb_kz_298_1 : tbc_298_1.all (tb_ckr 298) = true := by decide +kernel
theorem tb_ky_298 : tb_cky 298 = true := by
  show (tbc_298_0 ++ tbc_298_1).all (tb_ckr 298) = true
  simp only [List.all_append, tb_kz_298_0, tb_kz_298_1, Bool.and_self]
set_option maxRecDepth 100000 in
theorem tb_kz_299_0 : tbc_299_0.all (tb_ckr 299) = true := by decide +kernel
set_option maxRecDepth 100000 in
theorem tb_kz_299_1 : tbc_299_1.all (tb_ckr 299) = true := by decide +kernel
theorem tb_ky_299 : tb_cky 299 = true := by
  show (tbc_299_0 ++ tbc_299_1).all (tb_ckr 299) = true
  simp only [List.all_append, tb_kz_299_0, tb_kz_299_1, Bool.and_self]
set_option maxRecDepth 100000 in
theorem tb_kz_300_0 : tbc_300_0.all (tb_ckr 300) = true := by decide +kernel
set_option maxRecDepth 100000 in
theorem tb_kz_300_1 : tbc_300_1.all (tb_ckr 300) = true := by decide +kernel
theorem tb_ky_300 : tb_cky 300 = true := by
  show (tbc_300_0 ++ tbc_300_1).all (tb_ckr 300) = true
  simp only [List.all_append, tb_kz_300_0, tb_kz_300_1, Bool.and_self]
set_option maxRecDepth 100000 in
theorem tb_kz_301_0 : tbc_301_0.all (tb_ckr 301) = true := by decide +kernel
set_option maxRecDepth 100000 in
theorem tb_kz_301_1 : tbc_301_1.all (tb_ckr 301) = true := by decide +kernel
theorem tb_ky_301 : tb_cky 301 = true := by
  show (tbc_301_0 ++ tbc_301_1).all (tb_ckr 301) = true
  simp only [List.all_append, tb_kz_301_0, tb_kz_301_1, Bool.and_self]
set_option maxRecDepth 100000 in
theorem tb_kz_302 : tbc_302.all (tb_ckr 302) = true := by decide +kernel
theorem tb_ky_302 : tb_cky 302 = true := tb_kz_302
set_option maxRecDepth 100000 in
theorem tb_kz_303 : tbc_303.all (tb_ckr 303) = true := by decide +kernel
theorem tb_ky_303 : tb_cky 303 = true := tb_kz_303
set_option maxRecDepth 100000 in
theorem tb_kz_304_0 : tbc_304_0.all (tb_ckr 304) = true := by decide +kernel
set_option maxRecDepth 100000 in
theorem tb_kz_304_1 : tbc_304_1.all (tb_ckr 304) = true := by decide +kernel
set_option maxRecDepth 100000 in
theorem tb_kz_304_2 : tbc_304_2.all (tb_ckr 304) = true := by decide +kernel
set_option maxRecDepth 100000 in
theorem tb_kz_304_3 : tbc_304_3.all (tb_ckr 304) = true := by decide +kernel
set_option maxRecDepth 100000 in
theorem tb_kz_304_4 : tbc_304_4.all (tb_ckr 304) = true := by decide +kernel
theorem tb_ky_304 : tb_cky 304 = true := by
  show (tbc_304_0 ++ tbc_304_1 ++ tbc_304_2 ++ tbc_304_3 ++ tbc_304_4).all (tb_ckr 304) = true
  simp only [List.all_append, tb_kz_304_0, tb_kz_304_1, tb_kz_304_2, tb_kz_304_3, tb_kz_304_4, Bool.and_self]
set_option maxRecDepth 100000 in
theorem tb_kz_305 : tbc_305.all (tb_ckr 305) = true := by decide +kernel
theorem tb_ky_305 : tb_cky 305 = true := tb_kz_305
set_option maxRecDepth 100000 in
theorem tb_kz_306 : tbc_306.all (tb_ckr 306) = true := by decide +kernel
theorem tb_ky_306 : tb_cky 306 = true := tb_kz_306
set_option maxRecDepth 100000 in
theorem tb_kz_307_0 : tbc_307_0.all (tb_ckr 307) = true := by decide +kernel
set_option maxRecDepth 100000 in
theorem tb_kz_307_1 : tbc_307_1.all (tb_ckr 307) = true := by decide +kernel
set_option maxRecDepth 100000 in
theorem tb_kz_307_2 : tbc_307_2.all (tb_ckr 307) = true := by decide +kernel
theorem tb_ky_307 : tb_cky 307 = true := by
  show (tbc_307_0 ++ tbc_307_1 ++ tbc_307_2).all (tb_ckr 307) = true
  simp only [List.all_append, tb_kz_307_0, tb_kz_307_1, tb_kz_307_2, Bool.and_self]
set_option maxRecDepth 100000 in
theorem tb_kz_308 : tbc_308.all (tb_ckr 308) = true := by decide +kernel
theorem tb_ky_308 : tb_cky 308 = true := tb_kz_308
set_option maxRecDepth 100000 in
theorem tb_kz_309 : tbc_309.all (tb_ckr 309) = true := by decide +kernel
theorem tb_ky_309 : tb_cky 309 = true := tb_kz_309
set_option maxRecDepth 100000 in
theorem tb_kz_310_0 : tbc_310_0.all (tb_ckr 310) = true := by decide +kernel
set_option maxRecDepth 100000 in
theorem tb_kz_310_1 : tbc_310_1.all (tb_ckr 310) = true := by decide +kernel
theorem tb_ky_310 : tb_cky 310 = true := by
  show (tbc_310_0 ++ tbc_310_1).all (tb_ckr 310) = true
  simp only [List.all_append, tb_kz_310_0, tb_kz_310_1, Bool.and_self]
set_option maxRecDepth 100000 in
theorem tb_kz_311 : tbc_311.all (tb_ckr 311) = true := by decide +kernel
theorem tb_ky_311 : tb_cky 311 = true := tb_kz_311
set_option maxRecDepth 100000 in
theorem tb_kz_312 : tbc_312.all (tb_ckr 312) = true := by decide +kernel
theorem tb_ky_312 : tb_cky 312 = true := tb_kz_312
set_option maxRecDepth 100000 in
theorem tb_kz_313 : tbc_313.all (tb_ckr 313) = true := by decide +kernel
theorem tb_ky_313 : tb_cky 313 = true := tb_kz_313
set_option maxRecDepth 100000 in
theorem tb_kz_314 : tbc_314.all (tb_ckr 314) = true := by decide +kernel
theorem tb_ky_314 : tb_cky 314 = true := tb_kz_314
set_option maxRecDepth 100000 in
theorem tb_kz_315 : tbc_315.all (tb_ckr 315) = true := by decide +kernel
theorem tb_ky_315 : tb_cky 315 = true := tb_kz_315
set_option maxRecDepth 100000 in
theorem tb_kz_316_0 : tbc_316_0.all (tb_ckr 316) = true := by decide +kernel
set_option maxRecDepth 100000 in
theorem tb_kz_316_1 : tbc_316_1.all (tb_ckr 316) = true := by decide +kernel
set_option maxRecDepth 100000 in
theorem tb_kz_316_2 : tbc_316_2.all (tb_ckr 316) = true := by decide +kernel
theorem tb_ky_316 : tb_cky 316 = true := by
  show (tbc_316_0 ++ tbc_316_1 ++ tbc_316_2).all (tb_ckr 316) = true
  simp only [List.all_append, tb_kz_316_0, tb_kz_316_1, tb_kz_316_2, Bool.and_self]
set_option maxRecDepth 100000 in
theorem tb_kz_317_0 : tbc_317_0.all (tb_ckr 317) = true := by decide +kernel
set_option maxRecDepth 100000 in
theorem tb_kz_317_1 : tbc_317_1.all (tb_ckr 317) = true := by decide +kernel
theorem tb_ky_317 : tb_cky 317 = true := by
  show (tbc_317_0 ++ tbc_317_1).all (tb_ckr 317) = true
  simp only [List.all_append, tb_kz_317_0, tb_kz_317_1, Bool.and_self]
set_option maxRecDepth 100000 in
theorem tb_kz_318_0 : tbc_318_0.all (tb_ckr 318) = true := by decide +kernel
set_option maxRecDepth 100000 in
theorem tb_kz_318_1 : tbc_318_1.all (tb_ckr 318) = true := by decide +kernel
theorem tb_ky_318 : tb_cky 318 = true := by
  show (tbc_318_0 ++ tbc_318_1).all (tb_ckr 318) = true
  simp only [List.all_append, tb_kz_318_0, tb_kz_318_1, Bool.and_self]
set_option maxRecDepth 100000 in
theorem tb_kz_319 : tbc_319.all (tb_ckr 319) = true := by decide +kernel
theorem tb_ky_319 : tb_cky 319 = true := tb_kz_319
set_option maxRecDepth 100000 in
theorem tb_kz_320 : tbc_320.all (tb_ckr 320) = true := by decide +kernel
theorem tb_ky_320 : tb_cky 320 = true := tb_kz_320
set_option maxRecDepth 100000 in
theorem tb_kz_321_0 : tbc_321_0.all (tb_ckr 321) = true := by decide +kernel
set_option maxRecDepth 100000 in
theorem tb_kz_321_1 : tbc_321_1.all (tb_ckr 321) = true := by decide +kernel
theorem tb_ky_321 : tb_cky 321 = true := by
  show (tbc_321_0 ++ tbc_321_1).all (tb_ckr 321) = true
  simp only [List.all_append, tb_kz_321_0, tb_kz_321_1, Bool.and_self]
set_option maxRecDepth 100000 in
theorem tb_kz_322 : tbc_322.all (tb_ckr 322) = true := by decide +kernel
theorem tb_ky_322 : tb_cky 322 = true := tb_kz_322
set_option maxRecDepth 100000 in
theorem tb_kz_323_0 : tbc_323_0.all (tb_ckr 323) = true := by decide +kernel
set_option maxRecDepth 100000 in
theorem tb_kz_323_1 : tbc_323_1.all (tb_ckr 323) = true := by decide +kernel
set_option maxRecDepth 100000 in
theorem tb_kz_323_2 : tbc_323_2.all (tb_ckr 323) = true := by decide +kernel
set_option maxRecDepth 100000 in
theorem tb_kz_323_3 : tbc_323_3.all (tb_ckr 323) = true := by decide +kernel
set_option maxRecDepth 100000 in
theorem tb_kz_323_4 : tbc_323_4.all (tb_ckr 323) = true := by decide +kernel
set_option maxRecDepth 100000 in
theorem tb_kz_323_5 : tbc_323_5.all (tb_ckr 323) = true := by decide +kernel
set_option maxRecDepth 100000 in
theorem tb_kz_323_6 : tbc_323_6.all (tb_ckr 323) = true := by decide +kernel
set_option maxRecDepth 100000 in
theorem tb_kz_323_7 : tbc_323_7.all (tb_ckr 323) = true := by decide +kernel
set_option maxRecDepth 100000 in
theorem tb_kz_323_8 : tbc_323_8.all (tb_ckr 323) = true := by decide +kernel
set_option maxRecDepth 100000 in
theorem tb_kz_323_9 : tbc_323_9.all (tb_ckr 323) = true := by decide +kernel
set_option maxRecDepth 100000 in
theorem tb_kz_323_10 : tbc_323_10.all (tb_ckr 323) = true := by decide +kernel
set_option maxRecDepth 100000 in
theorem tb_kz_323_11 : tbc_323_11.all (tb_ckr 323) = true := by decide +kernel
set_option maxRecDepth 100000 in
theorem tb_kz_323_12 : tbc_323_12.all (tb_ckr 323) = true := by decide +kernel
set_option maxRecDepth 100000 in
theorem tb_kz_323_13 : tbc_323_13.all (tb_ckr 323) = true := by decide +kernel
set_option maxRecDepth 100000 in
theorem tb_kz_323_14 : tbc_323_14.all (tb_ckr 323) = true := by decide +kernel
set_option maxRecDepth 100000 in
theorem tb_kz_323_15 : tbc_323_15.all (tb_ckr 323) = true := by decide +kernel
set_option maxRecDepth 100000 in
theorem tb_kz_323_16 : tbc_323_16.all (tb_ckr 323) = true := by decide +kernel
set_option maxRecDepth 100000 in
theorem tb_kz_323_17 : tbc_323_17.all (tb_ckr 323) = true := by decide +kernel
set_option maxRecDepth 100000 in
theorem tb_kz_323_18 : tbc_323_18.all (tb_ckr 323) = true := by decide +kernel
set_option maxRecDepth 100000 in
theorem tb_kz_323_19 : tbc_323_19.all (tb_ckr 323) = true := by decide +kernel
set_option maxRecDepth 100000 in
theorem tb_kz_323_20 : tbc_323_20.all (tb_ckr 323) = true := by decide +kernel
theorem tb_ky_323 : tb_cky 323 = true := by
  show (tbc_323_0 ++ tbc_323_1 ++ tbc_323_2 ++ tbc_323_3 ++ tbc_323_4 ++ tbc_323_5 ++ tbc_323_6 ++ tbc_323_7 ++ tbc_323_8 ++ tbc_323_9 ++ tbc_323_10 ++ tbc_323_11 ++ tbc_323_12 ++ tbc_323_13 ++ tbc_323_14 ++ tbc_323_15 ++ tbc_323_16 ++ tbc_323_17 ++ tbc_323_18 ++ tbc_323_19 ++ tbc_323_20).all (tb_ckr 323) = true
  simp only [List.all_append, tb_kz_323_0, tb_kz_323_1, tb_kz_323_2, tb_kz_323_3, tb_kz_323_4, tb_kz_323_5, tb_kz_323_6, tb_kz_323_7, tb_kz_323_8, tb_kz_323_9, tb_kz_323_10, tb_kz_323_11, tb_kz_323_12, tb_kz_323_13, tb_kz_323_14, tb_kz_323_15, tb_kz_323_16, tb_kz_323_17, tb_kz_323_18, tb_kz_323_19, tb_kz_323_20, Bool.and_self]
theorem tb_kg_0 : ∀ y ∈ [0, 1, 2, 3, 4, 5, 6, 7, 8, 9, 10, 11, 12, 13, 14, 15, 16, 17], tb_cky y = true := List.forall_mem_cons.mpr ⟨tb_ky_0, List.forall_mem_cons.mpr ⟨tb_ky_1, List.forall_mem_cons.mpr ⟨tb_ky_2, List.forall_mem_cons.mpr ⟨tb_ky_3, List.forall_mem_cons.mpr ⟨tb_ky_4, List.forall_mem_cons.mpr ⟨tb_ky_5, List.forall_mem_cons.mpr ⟨tb_ky_6, List.forall_mem_cons.mpr ⟨tb_ky_7, List.forall_mem_cons.mpr ⟨tb_ky_8, List.forall_mem_cons.mpr ⟨tb_ky_9, List.forall_mem_cons.mpr ⟨tb_ky_10, List.forall_mem_cons.mpr ⟨tb_ky_11, List.forall_mem_cons.mpr ⟨tb_ky_12, List.forall_mem_cons.mpr ⟨tb_ky_13, List.forall_mem_cons.mpr ⟨tb_ky_14, List.forall_mem_cons.mpr ⟨tb_ky_15, List.forall_mem_cons.mpr ⟨tb_ky_16, List.forall_mem_cons.mpr ⟨tb_ky_17, fun _ h => absurd h List.not_mem_nil⟩⟩⟩⟩⟩⟩⟩⟩⟩⟩⟩⟩⟩⟩⟩⟩⟩⟩
theorem tb_kg_1 : ∀ y ∈ [18, 19, 20, 21, 22, 23, 24, 25, 26, 27, 28, 29, 30, 31, 32, 33, 34, 35], tb_cky y = true := List.forall_mem_cons.mpr ⟨tb_ky_18, List.forall_mem_cons.mpr ⟨tb_ky_19, List.forall_mem_cons.mpr ⟨tb_ky_20, List.forall_mem_cons.mpr ⟨tb_ky_21, List.forall_mem_cons.mpr ⟨tb_ky_22, List.forall_mem_cons.mpr ⟨tb_ky_23, List.forall_mem_cons.mpr ⟨tb_ky_24, List.forall_mem_cons.mpr ⟨tb_ky_25, List.forall_mem_cons.mpr ⟨tb_ky_26, List.forall_mem_cons.mpr ⟨tb_ky_27, List.forall_mem_cons.mpr ⟨tb_ky_28, List.forall_mem_cons.mpr ⟨tb_ky_29, List.forall_mem_cons.mpr ⟨tb_ky_30, List.forall_mem_cons.mpr ⟨tb_ky_31, List.forall_mem_cons.mpr ⟨tb_ky_32, List.forall_mem_cons.mpr ⟨tb_ky_33, List.forall_mem_cons.mpr ⟨tb_ky_34, List.forall_mem_cons.mpr ⟨tb_ky_35, fun _ h => absurd h List.not_mem_nil⟩⟩⟩⟩⟩⟩⟩⟩⟩⟩⟩⟩⟩⟩⟩⟩⟩⟩
theorem tb_kg_2 : ∀ y ∈ [36, 37, 38, 39, 40, 41, 42, 43, 44, 45, 46, 47, 48, 49, 50, 51, 52, 53], tb_cky y = true := List.forall_mem_cons.mpr ⟨tb_ky_36, List.forall_mem_cons.mpr ⟨tb_ky_37, List.forall_mem_cons.mpr ⟨tb_ky_38, List.forall_mem_cons.mpr ⟨tb_ky_39, List.forall_mem_cons.mpr ⟨tb_ky_40, List.forall_mem_cons.mpr ⟨tb_ky_41, List.forall_mem_cons.mpr ⟨tb_ky_42, List.forall_mem_cons.mpr ⟨tb_ky_43, List.forall_mem_cons.mpr ⟨tb_ky_44, List.forall_mem_cons.mpr ⟨tb_ky_45, List.forall_mem_cons.mpr ⟨tb_ky_46, List.forall_mem_cons.mpr ⟨tb_ky_47, List.forall_mem_cons.mpr ⟨tb_ky_48, List.forall_mem_cons.mpr ⟨tb_ky_49, List.forall_mem_cons.mpr ⟨tb_ky_50, List.forall_mem_cons.mpr ⟨tb_ky_51, List.forall_mem_cons.mpr ⟨tb_ky_52, List.forall_mem_cons.mpr ⟨tb_ky_53, fun _ h => absurd h List.not_mem_nil⟩⟩⟩⟩⟩⟩⟩⟩⟩⟩⟩⟩⟩⟩⟩⟩⟩⟩
theorem tb_kg_3 : ∀ y ∈ [54, 55, 56, 57, 58, 59, 60, 61, 62, 63, 64, 65, 66, 67, 68, 69, 70, 71], tb_cky y = true := List.forall_mem_cons.mpr ⟨tb_ky_54, List.forall_mem_cons.mpr ⟨tb_ky_55, List.forall_mem_cons.mpr ⟨tb_ky_56, List.forall_mem_cons.mpr ⟨tb_ky_57, List.forall_mem_cons.mpr ⟨tb_ky_58, List.forall_mem_cons.mpr ⟨tb_ky_59, List.forall_mem_cons.mpr ⟨tb_ky_60, List.forall_mem_cons.mpr ⟨tb_ky_61, List.forall_mem_cons.mpr ⟨tb_ky_62, List.forall_mem_cons.mpr ⟨tb_ky_63, List.forall_mem_cons.mpr ⟨tb_ky_64, List.forall_mem_cons.mpr ⟨tb_ky_65, List.forall_mem_cons.mpr ⟨tb_ky_66, List.forall_mem_cons.mpr ⟨tb_ky_67, List.forall_mem_cons.mpr ⟨tb_ky_68, List.forall_mem_cons.mpr ⟨tb_ky_69, List.forall_mem_cons.mpr ⟨tb_ky_70, List.forall_mem_cons.mpr ⟨tb_ky_71, fun _ h => absurd h List.not_mem_nil⟩⟩⟩⟩⟩⟩⟩⟩⟩⟩⟩⟩⟩⟩⟩⟩⟩⟩
theorem tb_kg_4 : ∀ y ∈ [72, 73, 74, 75, 76, 77, 78, 79, 80, 81, 82, 83, 84, 85, 86, 87, 88, 89], tb_cky y = true := List.forall_mem_cons.mpr ⟨tb_ky_72, List.forall_mem_cons.mpr ⟨tb_ky_73, List.forall_mem_cons.mpr ⟨tb_ky_74, List.forall_mem_cons.mpr ⟨tb_ky_75, List.forall_mem_cons.mpr ⟨tb_ky_76, List.forall_mem_cons.mpr ⟨tb_ky_77, List.forall_mem_cons.mpr ⟨tb_ky_78, List.forall_mem_cons.mpr ⟨tb_ky_79, List.forall_mem_cons.mpr ⟨tb_ky_80, List.forall_mem_cons.mpr ⟨tb_ky_81, List.forall_mem_cons.mpr ⟨tb_ky_82, List.forall_mem_cons.mpr ⟨tb_ky_83, List.forall_mem_cons.mpr ⟨tb_ky_84, List.forall_mem_cons.mpr ⟨tb_ky_85, List.forall_mem_cons.mpr ⟨tb_ky_86, List.forall_mem_cons.mpr ⟨tb_ky_87, List.forall_mem_cons.mpr ⟨tb_ky_88, List.forall_mem_cons.mpr ⟨tb_ky_89, fun _ h => absurd h List.not_mem_nil⟩⟩⟩⟩⟩⟩⟩⟩⟩⟩⟩⟩⟩⟩⟩⟩⟩⟩
theorem tb_kg_5 : ∀ y ∈ [90, 91, 92, 93, 94, 95, 96, 97, 98, 99, 100, 101, 102, 103, 104, 105, 106, 107], tb_cky y = true := List.forall_mem_cons.mpr ⟨tb_ky_90, List.forall_mem_cons.mpr ⟨tb_ky_91, List.forall_mem_cons.mpr ⟨tb_ky_92, List.forall_mem_cons.mpr ⟨tb_ky_93, List.forall_mem_cons.mpr ⟨tb_ky_94, List.forall_mem_cons.mpr ⟨tb_ky_95, List.forall_mem_cons.mpr ⟨tb_ky_96, List.forall_mem_cons.mpr ⟨tb_ky_97, List.forall_mem_cons.mpr ⟨tb_ky_98, List.forall_mem_cons.mpr ⟨tb_ky_99, List.forall_mem_cons.mpr ⟨tb_ky_100, List.forall_mem_cons.mpr ⟨tb_ky_101, List.forall_mem_cons.mpr ⟨tb_ky_102, List.forall_mem_cons.mpr ⟨tb_ky_103, List.forall_mem_cons.mpr ⟨tb_ky_104, List.forall_mem_cons.mpr ⟨tb_ky_105, List.forall_mem_cons.mpr ⟨tb_ky_106, List.forall_mem_cons.mpr ⟨tb_ky_107, fun _ h => absurd h List.not_mem_nil⟩⟩⟩⟩⟩⟩⟩⟩⟩⟩⟩⟩⟩⟩⟩⟩⟩⟩
theorem tb_kg_6 : ∀ y ∈ [108, 109, 110, 111, 112, 113, 114, 115, 116, 117, 118, 119, 120, 121, 122, 123, 124, 125], tb_cky y = true := List.forall_mem_cons.mpr ⟨tb_ky_108, List.forall_mem_cons.mpr ⟨tb_ky_109, List.forall_mem_cons.mpr ⟨tb_ky_110, List.forall_mem_cons.mpr ⟨tb_ky_111, List.forall_mem_cons.mpr ⟨tb_ky_112, List.forall_mem_cons.mpr ⟨tb_ky_113, List.forall_mem_cons.mpr ⟨tb_ky_114, List.forall_mem_cons.mpr ⟨tb_ky_115, List.forall_mem_cons.mpr ⟨tb_ky_116, List.forall_mem_cons.mpr ⟨tb_ky_117, List.forall_mem_cons.mpr ⟨tb_ky_118, List.forall_mem_cons.mpr ⟨tb_ky_119, List.forall_mem_cons.mpr ⟨tb_ky_120, List.forall_mem_cons.mpr ⟨tb_ky_121, List.forall_mem_cons.mpr ⟨tb_ky_122, List.forall_mem_cons.mpr ⟨tb_ky_123, List.forall_mem_cons.mpr ⟨tb_ky_124, List.forall_mem_cons.mpr ⟨tb_ky_125, fun _ h => absurd h List.not_mem_nil⟩⟩⟩⟩⟩⟩⟩⟩⟩⟩⟩⟩⟩⟩⟩⟩⟩⟩
theorem tb_kg_7 : ∀ y ∈ [126, 127, 128, 129, 130, 131, 132, 133, 134, 135, 136, 137, 138, 139, 140, 141, 142, 143], tb_cky y = true := List.forall_mem_cons.mpr ⟨tb_ky_126, List.forall_mem_cons.mpr ⟨tb_ky_127, List.forall_mem_cons.mpr ⟨tb_ky_128, List.forall_mem_cons.mpr ⟨tb_ky_129, List.forall_mem_cons.mpr ⟨tb_ky_130, List.forall_mem_cons.mpr ⟨tb_ky_131, List.forall_mem_cons.mpr ⟨tb_ky_132, List.forall_mem_cons.mpr ⟨tb_ky_133, List.forall_mem_cons.mpr ⟨tb_ky_134, List.forall_mem_cons.mpr ⟨tb_ky_135, List.forall_mem_cons.mpr ⟨tb_ky_136, List.forall_mem_cons.mpr ⟨tb_ky_137, List.forall_mem_cons.mpr ⟨tb_ky_138, List.forall_mem_cons.mpr ⟨tb_ky_139, List.forall_mem_cons.mpr ⟨tb_ky_140, List.forall_mem_cons.mpr ⟨tb_ky_141, List.forall_mem_cons.mpr ⟨tb_ky_142, List.forall_mem_cons.mpr ⟨tb_ky_143, fun _ h => absurd h List.not_mem_nil⟩⟩⟩⟩⟩⟩⟩⟩⟩⟩⟩⟩⟩⟩⟩⟩⟩⟩
theorem tb_kg_8 : ∀ y ∈ [144, 145, 146, 147, 148, 149, 150, 151, 152, 153, 154, 155, 156, 157, 158, 159, 160, 161], tb_cky y = true := List.forall_mem_cons.mpr ⟨tb_ky_144, List.forall_mem_cons.mpr ⟨tb_ky_145, List.forall_mem_cons.mpr ⟨tb_ky_146, List.forall_mem_cons.mpr ⟨tb_ky_147, List.forall_mem_cons.mpr ⟨tb_ky_148, List.forall_mem_cons.mpr ⟨tb_ky_149, List.forall_mem_cons.mpr ⟨tb_ky_150, List.forall_mem_cons.mpr ⟨tb_ky_151, List.forall_mem_cons.mpr ⟨tb_ky_152, List.forall_mem_cons.mpr ⟨tb_ky_153, List.forall_mem_cons.mpr ⟨tb_ky_154, List.forall_mem_cons.mpr ⟨tb_ky_155, List.forall_mem_cons.mpr ⟨tb_ky_156, List.forall_mem_cons.mpr ⟨tb_ky_157, List.forall_mem_cons.mpr ⟨tb_ky_158, List.forall_mem_cons.mpr ⟨tb_ky_159, List.forall_mem_cons.mpr ⟨tb_ky_160, List.forall_mem_cons.mpr ⟨tb_ky_161, fun _ h => absurd h List.not_mem_nil⟩⟩⟩⟩⟩⟩⟩⟩⟩⟩⟩⟩⟩⟩⟩⟩⟩⟩
theorem tb_kg_9 : ∀ y ∈ [162, 163, 164, 165, 166, 167, 168, 169, 170, 171, 172, 173, 174, 175, 176, 177, 178, 179], tb_cky y = true := List.forall_mem_cons.mpr ⟨tb_ky_162, List.forall_mem_cons.mpr ⟨tb_ky_163, List.forall_mem_cons.mpr ⟨tb_ky_164, List.forall_mem_cons.mpr ⟨tb_ky_165, List.forall_mem_cons.mpr ⟨tb_ky_166, List.forall_mem_cons.mpr ⟨tb_ky_167, List.forall_mem_cons.mpr ⟨tb_ky_168, List.forall_mem_cons.mpr ⟨tb_ky_169, List.forall_mem_cons.mpr ⟨tb_ky_170, List.forall_mem_cons.mpr ⟨tb_ky_171, List.forall_mem_cons.mpr ⟨tb_ky_172, List.forall_mem_cons.mpr ⟨tb_ky_173, List.forall_mem_cons.mpr ⟨tb_ky_174, List.forall_mem_cons.mpr ⟨tb_ky_175, List.forall_mem_cons.mpr ⟨tb_ky_176, List.forall_mem_cons.mpr ⟨tb_ky_177, List.forall_mem_cons.mpr ⟨tb_ky_178, List.forall_mem_cons.mpr ⟨tb_ky_179, fun _ h => absurd h List.not_mem_nil⟩⟩⟩⟩⟩⟩⟩⟩⟩⟩⟩⟩⟩⟩⟩⟩⟩⟩
theorem tb_kg_10 : ∀ y ∈ [180, 181, 182, 183, 184, 185, 186, 187, 188, 189, 190, 191, 192, 193, 194, 195, 196, 197], tb_cky y = true := List.forall_mem_cons.mpr ⟨tb_ky_180, List.forall_mem_cons.mpr ⟨tb_ky_181, List.forall_mem_cons.mpr ⟨tb_ky_182, List.forall_mem_cons.mpr ⟨tb_ky_183, List.forall_mem_cons.mpr ⟨tb_ky_184, List.forall_mem_cons.mpr ⟨tb_ky_185, List.forall_mem_cons.mpr ⟨tb_ky_186, List.forall_mem_cons.mpr ⟨tb_ky_187, List.forall_mem_cons.mpr ⟨tb_ky_188, List.forall_mem_cons.mpr ⟨tb_ky_189, List.forall_mem_cons.mpr ⟨tb_ky_190, List.forall_mem_cons.mpr ⟨tb_ky_191, List.forall_mem_cons.mpr ⟨tb_ky_192, List.forall_mem_cons.mpr ⟨tb_ky_193, List.forall_mem_cons.mpr ⟨tb_ky_194, List.forall_mem_cons.mpr ⟨tb_ky_195, List.forall_mem_cons.mpr ⟨tb_ky_196, List.forall_mem_cons.mpr ⟨tb_ky_197, fun _ h => absurd h List.not_mem_nil⟩⟩⟩⟩⟩⟩⟩⟩⟩⟩⟩⟩⟩⟩⟩⟩⟩⟩
theorem tb_kg_11 : ∀ y ∈ [198, 199, 200, 201, 202, 203, 204, 205, 206, 207, 208, 209, 210, 211, 212, 213, 214, 215], tb_cky y = true := List.forall_mem_cons.mpr ⟨tb_ky_198, List.forall_mem_cons.mpr ⟨tb_ky_199, List.forall_mem_cons.mpr ⟨tb_ky_200, List.forall_mem_cons.mpr ⟨tb_ky_201, List.forall_mem_cons.mpr ⟨tb_ky_202, List.forall_mem_cons.mpr ⟨tb_ky_203, List.forall_mem_cons.mpr ⟨tb_ky_204, List.forall_mem_cons.mpr ⟨tb_ky_205, List.forall_mem_cons.mpr ⟨tb_ky_206, List.forall_mem_cons.mpr ⟨tb_ky_207, List.forall_mem_cons.mpr ⟨tb_ky_208, List.forall_mem_cons.mpr ⟨tb_ky_209, List.forall_mem_cons.mpr ⟨tb_ky_210, List.forall_mem_cons.mpr ⟨tb_ky_211, List.forall_mem_cons.mpr ⟨tb_ky_212, List.forall_mem_cons.mpr ⟨tb_ky_213, List.forall_mem_cons.mpr ⟨tb_ky_214, List.forall_mem_cons.mpr ⟨tb_ky_215, fun _ h => absurd h List.not_mem_nil⟩⟩⟩⟩⟩⟩⟩⟩⟩⟩⟩⟩⟩⟩⟩⟩⟩⟩
theorem tb_kg_12 : ∀ y ∈ [216, 217, 218, 219, 220, 221, 222, 223, 224, 225, 226, 227, 228, 229, 230, 231, 232, 233], tb_cky y = true := List.forall_mem_cons.mpr ⟨tb_ky_216, List.forall_mem_cons.mpr ⟨tb_ky_217, List.forall_mem_cons.mpr ⟨tb_ky_218, List.forall_mem_cons.mpr ⟨tb_ky_219, List.forall_mem_cons.mpr ⟨tb_ky_220, List.forall_mem_cons.mpr ⟨tb_ky_221, List.forall_mem_cons.mpr ⟨tb_ky_222, List.forall_mem_cons.mpr ⟨tb_ky_223, List.forall_mem_cons.mpr ⟨tb_ky_224, List.forall_mem_cons.mpr ⟨tb_ky_225, List.forall_mem_cons.mpr ⟨tb_ky_226, List.forall_mem_cons.mpr ⟨tb_ky_227, List.forall_mem_cons.mpr ⟨tb_ky_228, List.forall_mem_cons.mpr ⟨tb_ky_229, List.forall_mem_cons.mpr ⟨tb_ky_230, List.forall_mem_cons.mpr ⟨tb_ky_231, List.forall_mem_cons.mpr ⟨tb_ky_232, List.forall_mem_cons.mpr ⟨tb_ky_233, fun _ h => absurd h List.not_mem_nil⟩⟩⟩⟩⟩⟩⟩⟩⟩⟩⟩⟩⟩⟩⟩⟩⟩⟩
theorem tb_kg_13 : ∀ y ∈ [234, 235, 236, 237, 238, 239, 240, 241, 242, 243, 244, 245, 246, 247, 248, 249, 250, 251], tb_cky y = true := List.forall_mem_cons.mpr ⟨tb_ky_234, List.forall_mem_cons.mpr ⟨tb_ky_235, List.forall_mem_cons.mpr ⟨tb_ky_236, List.forall_mem_cons.mpr ⟨tb_ky_237, List.forall_mem_cons.mpr ⟨tb_ky_238, List.forall_mem_cons.mpr ⟨tb_ky_239, List.forall_mem_cons.mpr ⟨tb_ky_240, List.forall_mem_cons.mpr ⟨tb_ky_241, List.forall_mem_cons.mpr ⟨tb_ky_242, List.forall_mem_cons.mpr ⟨tb_ky_243, List.forall_mem_cons.mpr ⟨tb_ky_244, List.forall_mem_cons.mpr ⟨tb_ky_245, List.forall_mem_cons.mpr ⟨tb_ky_246, List.forall_mem_cons.mpr ⟨tb_ky_247, List.forall_mem_cons.mpr ⟨tb_ky_248, List.forall_mem_cons.mpr ⟨tb_ky_249, List.forall_mem_cons.mpr ⟨tb_ky_250, List.forall_mem_cons.mpr ⟨tb_ky_251, fun _ h => absurd h List.not_mem_nil⟩⟩⟩⟩⟩⟩⟩⟩⟩⟩⟩⟩⟩⟩⟩⟩⟩⟩
theorem tb_kg_14 : ∀ y ∈ [252, 253, 254, 255, 256, 257, 258, 259, 260, 261, 262, 263, 264, 265, 266, 267, 268, 269], tb_cky y = true := List.forall_mem_cons.mpr ⟨tb_ky_252, List.forall_mem_cons.mpr ⟨tb_ky_253, List.forall_mem_cons.mpr ⟨tb_ky_254, List.forall_mem_cons.mpr ⟨tb_ky_255, List.forall_mem_cons.mpr ⟨tb_ky_256, List.forall_mem_cons.mpr ⟨tb_ky_257, List.forall_mem_cons.mpr ⟨tb_ky_258, List.forall_mem_cons.mpr ⟨tb_ky_259, List.forall_mem_cons.mpr ⟨tb_ky_260, List.forall_mem_cons.mpr ⟨tb_ky_261, List.forall_mem_cons.mpr ⟨tb_ky_262, List.forall_mem_cons.mpr ⟨tb_ky_263, List.forall_mem_cons.mpr ⟨tb_ky_264, List.forall_mem_cons.mpr ⟨tb_ky_265, List.forall_mem_cons.mpr ⟨tb_ky_266, List.forall_mem_cons.mpr ⟨tb_ky_267, List.forall_mem_cons.mpr ⟨tb_ky_268, List.forall_mem_cons.mpr ⟨tb_ky_269, fun _ h => absurd h List.not_mem_nil⟩⟩⟩⟩⟩⟩⟩⟩⟩⟩⟩⟩⟩⟩⟩⟩⟩⟩
theorem tb_kg_15 : ∀ y ∈ [270, 271, 272, 273, 274, 275, 276, 277, 278, 279, 280, 281, 282, 283, 284, 285, 286, 287], tb_cky y = true := List.forall_mem_cons.mpr ⟨tb_ky_270, List.forall_mem_cons.mpr ⟨tb_ky_271, List.forall_mem_cons.mpr ⟨tb_ky_272, List.forall_mem_cons.mpr ⟨tb_ky_273, List.forall_mem_cons.mpr ⟨tb_ky_274, List.forall_mem_cons.mpr ⟨tb_ky_275, List.forall_mem_cons.mpr ⟨tb_ky_276, List.forall_mem_cons.mpr ⟨tb_ky_277, List.forall_mem_cons.mpr ⟨tb_ky_278, List.forall_mem_cons.mpr ⟨tb_ky_279, List.forall_mem_cons.mpr ⟨tb_ky_280, List.forall_mem_cons.mpr ⟨tb_ky_281, List.forall_mem_cons.mpr ⟨tb_ky_282, List.forall_mem_cons.mpr ⟨tb_ky_283, List.forall_mem_cons.mpr ⟨tb_ky_284, List.forall_mem_cons.mpr ⟨tb_ky_285, List.forall_mem_cons.mpr ⟨tb_ky_286, List.forall_mem_cons.mpr ⟨tb_ky_287, fun _ h => absurd h List.not_mem_nil⟩⟩⟩⟩⟩⟩⟩⟩⟩⟩⟩⟩⟩⟩⟩⟩⟩⟩
theorem tb_kg_16 : ∀ y ∈ [288, 289, 290, 291, 292, 293, 294, 295, 296, 297, 298, 299, 300, 301, 302, 303, 304, 305], tb_cky y = true := List.forall_mem_cons.mpr ⟨tb_ky_288, List.forall_mem_cons.mpr ⟨tb_ky_289, List.forall_mem_cons.mpr ⟨tb_ky_290, List.forall_mem_cons.mpr ⟨tb_ky_291, List.forall_mem_cons.mpr ⟨tb_ky_292, List.forall_mem_cons.mpr ⟨tb_ky_293, List.forall_mem_cons.mpr ⟨tb_ky_294, List.forall_mem_cons.mpr ⟨tb_ky_295, List.forall_mem_cons.mpr ⟨tb_ky_296, List.forall_mem_cons.mpr ⟨tb_ky_297, List.forall_mem_cons.mpr ⟨tb_ky_298, List.forall_mem_cons.mpr ⟨tb_ky_299, List.forall_mem_cons.mpr ⟨tb_ky_300, List.forall_mem_cons.mpr ⟨tb_ky_301, List.forall_mem_cons.mpr ⟨tb_ky_302, List.forall_mem_cons.mpr ⟨tb_ky_303, List.forall_mem_cons.mpr ⟨tb_ky_304, List.forall_mem_cons.mpr ⟨tb_ky_305, fun _ h => absurd h List.not_mem_nil⟩⟩⟩⟩⟩⟩⟩⟩⟩⟩⟩⟩⟩⟩⟩⟩⟩⟩
theorem tb_kg_17 : ∀ y ∈ [306, 307, 308, 309, 310, 311, 312, 313, 314, 315, 316, 317, 318, 319, 320, 321, 322, 323], tb_cky y = true := List.forall_mem_cons.mpr ⟨tb_ky_306, List.forall_mem_cons.mpr ⟨tb_ky_307, List.forall_mem_cons.mpr ⟨tb_ky_308, List.forall_mem_cons.mpr ⟨tb_ky_309, List.forall_mem_cons.mpr ⟨tb_ky_310, List.forall_mem_cons.mpr ⟨tb_ky_311, List.forall_mem_cons.mpr ⟨tb_ky_312, List.forall_mem_cons.mpr ⟨tb_ky_313, List.forall_mem_cons.mpr ⟨tb_ky_314, List.forall_mem_cons.mpr ⟨tb_ky_315, List.forall_mem_cons.mpr ⟨tb_ky_316, List.forall_mem_cons.mpr ⟨tb_ky_317, List.forall_mem_cons.mpr ⟨tb_ky_318, List.forall_mem_cons.mpr ⟨tb_ky_319, List.forall_mem_cons.mpr ⟨tb_ky_320, List.forall_mem_cons.mpr ⟨tb_ky_321, List.forall_mem_cons.mpr ⟨tb_ky_322, List.forall_mem_cons.mpr ⟨tb_ky_323, fun _ h => absurd h List.not_mem_nil⟩⟩⟩⟩⟩⟩⟩⟩⟩⟩⟩⟩⟩⟩⟩⟩⟩⟩
theorem tb_krange : List.range 324 = [0, 1, 2, 3, 4, 5, 6, 7, 8, 9, 10, 11, 12, 13, 14, 15, 16, 17] ++ ([18, 19, 20, 21, 22, 23, 24, 25, 26, 27, 28, 29, 30, 31, 32, 33, 34, 35] ++ ([36, 37, 38, 39, 40, 41, 42, 43, 44, 45, 46, 47, 48, 49, 50, 51, 52, 53] ++ ([54, 55, 56, 57, 58, 59, 60, 61, 62, 63, 64, 65, 66, 67, 68, 69, 70, 71] ++ ([72, 73, 74, 75, 76, 77, 78, 79, 80, 81, 82, 83, 84, 85, 86, 87, 88, 89] ++ ([90, 91, 92, 93, 94, 95, 96, 97, 98, 99, 100, 101, 102, 103, 104, 105, 106, 107] ++ ([108, 109, 110, 111, 112, 113, 114, 115, 116, 117, 118, 119, 120, 121, 122, 123, 124, 125] ++ ([126, 127, 128, 129, 130, 131, 132, 133, 134, 135, 136, 137, 138, 139, 140, 141, 142, 143] ++ ([144, 145, 146, 147, 148, 149, 150, 151, 152, 153, 154, 155, 156, 157, 158, 159, 160, 161] ++ ([162, 163, 164, 165, 166, 167, 168, 169, 170, 171, 172, 173, 174, 175, 176, 177, 178, 179] ++ ([180, 181, 182, 183, 184, 185, 186, 187, 188, 189, 190, 191, 192, 193, 194, 195, 196, 197] ++ ([198, 199, 200, 201, 202, 203, 204, 205, 206, 207, 208, 209, 210, 211, 212, 213, 214, 215] ++ ([216, 217, 218, 219, 220, 221, 222, 223, 224, 225, 226, 227, 228, 229, 230, 231, 232, 233] ++ ([234, 235, 236, 237, 238, 239, 240, 241, 242, 243, 244, 245, 246, 247, 248, 249, 250, 251] ++ ([252, 253, 254, 255, 256, 257, 258, 259, 260, 261, 262, 263, 264, 265, 266, 267, 268, 269] ++ ([270, 271, 272, 273, 274, 275, 276, 277, 278, 279, 280, 281, 282, 283, 284, 285, 286, 287] ++ ([288, 289, 290, 291, 292, 293, 294, 295, 296, 297, 298, 299, 300, 301, 302, 303, 304, 305] ++ ([306, 307, 308, 309, 310, 311, 312, 313, 314, 315, 316, 317, 318, 319, 320, 321, 322, 323]))))))))))))))))) := by decide +kernel
theorem tb_ck_all {y : Nat} (hy : y < 324) : tb_cky y = true := by
  have h := List.mem_range.mpr hy
  rw [tb_krange] at h
  rcases List.mem_append.mp h with h | h
  · exact tb_kg_0 y h
  rcases List.mem_append.mp h with h | h
  · exact tb_kg_1 y h
  rcases List.mem_append.mp h with h | h
  · exact tb_kg_2 y h
  rcases List.mem_append.mp h with h | h
  · exact tb_kg_3 y h
  rcases List.mem_append.mp h with h | h
  · exact tb_kg_4 y h
  rcases List.mem_append.mp h with h | h
  · exact tb_kg_5 y h
  rcases List.mem_append.mp h with h | h
  · exact tb_kg_6 y h
  rcases List.mem_append.mp h with h | h
  · exact tb_kg_7 y h
  rcases List.mem_append.mp h with h | h
  · exact tb_kg_8 y h
  rcases List.mem_append.mp h with h | h
  · exact tb_kg_9 y h
  rcases List.mem_append.mp h with h | h
  · exact tb_kg_10 y h
  rcases List.mem_append.mp h with h | h
  · exact tb_kg_11 y h
  rcases List.mem_append.mp h with h | h
  · exact tb_kg_12 y h
  rcases List.mem_append.mp h with h | h
  · exact tb_kg_13 y h
  rcases List.mem_append.mp h with h | h
  · exact tb_kg_14 y h
  rcases List.mem_append.mp h with h | h
  · exact tb_kg_15 y h
  rcases List.mem_append.mp h with h | h
  · exact tb_kg_16 y h
  exact tb_kg_17 y h
theorem tb_lookup_mem {α : Type} : ∀ (l : List (Nat × α)) (k : Nat) (v : α), l.lookup k = some v → (k, v) ∈ l
  | [], _, _, h => by simp at h
  | (j, w) :: l, k, v, h => by
    rw [List.lookup_cons] at h
    by_cases hk : (k == j) = true
    · rw [hk] at h
      cases h
      have : k = j := by simpa using hk
      rw [this]
      exact List.mem_cons_self
    · have hk' : (k == j) = false := by simpa using hk
      rw [hk'] at h
      exact List.mem_cons_of_mem _ (tb_lookup_mem l k v h)
theorem tb_codes_len : tb_codes.length = 324 := by decide +kernel
theorem tb_ckd {y pc : Nat} {o : tb_O} (h : tb_at y pc = some o) : ∃ ins len, decode (tb_by y) pc = .ok (ins, len) ∧ tb_ck1 y (tb_oi y) pc len ins o = true := by
  have hm := tb_lookup_mem _ _ _ h
  have hy : y < 324 := by
    rcases Nat.lt_or_ge y 324 with q | q
    · exact q
    · have : tb_code y = [] := by
        unfold tb_code
        rw [List.getD_eq_getElem?_getD, List.getElem?_eq_none (by rw [tb_codes_len]; exact q)]
        rfl
      rw [this] at hm
      cases hm
  have h2 := List.all_eq_true.mp (tb_ck_all hy) _ hm
  unfold tb_ckr at h2
  dsimp only at h2
  split at h2
  · rename_i ins len he
    exact ⟨ins, len, he, h2⟩
  · cases h2

theorem S_0 : lm_S[0]? = some (0, 11) := by decide +kernel
theorem S_1 : lm_S[1]? = some (0, 4) := by decide +kernel
theorem S_2 : lm_S[2]? = some (1, 5) := by decide +kernel
theorem S_3 : lm_S[3]? = some (1, 6) := by decide +kernel
theorem S_4 : lm_S[4]? = some (1, 30) := by decide +kernel
theorem S_5 : lm_S[5]? = some (1, 5) := by decide +kernel
theorem S_6 : lm_S[6]? = some (1, 30) := by decide +kernel
theorem S_7 : lm_S[7]? = some (1, 5) := by decide +kernel
theorem S_8 : lm_S[8]? = some (5, 6) := by decide +kernel
theorem S_9 : lm_S[9]? = some (6, 2) := by decide +kernel
theorem S_10 : lm_S[10]? = some (2, 2) := by decide +kernel
theorem S_11 : lm_S[11]? = some (0, 7) := by decide +kernel
theorem S_12 : lm_S[12]? = some (1, 400) := by decide +kernel
theorem S_13 : lm_S[13]? = some (0, 3) := by decide +kernel
theorem S_14 : lm_S[14]? = some (1, 401) := by decide +kernel
theorem S_15 : lm_S[15]? = some (1, 401) := by decide +kernel
theorem S_16 : lm_S[16]? = some (1, 401) := by decide +kernel
theorem S_17 : lm_S[17]? = some (1, 401) := by decide +kernel
theorem S_18 : lm_S[18]? = some (0, 1) := by decide +kernel
theorem S_19 : lm_S[19]? = some (1, 7) := by decide +kernel
theorem S_20 : lm_S[20]? = some (4, 400) := by decide +kernel
theorem S_21 : lm_S[21]? = some (0, 6) := by decide +kernel
theorem S_22 : lm_S[22]? = some (1, 35) := by decide +kernel
theorem S_23 : lm_S[23]? = some (2, 35) := by decide +kernel
theorem S_24 : lm_S[24]? = some (1, 35) := by decide +kernel
theorem S_25 : lm_S[25]? = some (1, 5) := by decide +kernel
theorem S_26 : lm_S[26]? = some (0, 9) := by decide +kernel
theorem S_27 : lm_S[27]? = some (1, 5) := by decide +kernel
theorem S_28 : lm_S[28]? = some (1, 5) := by decide +kernel
theorem S_29 : lm_S[29]? = some (1, 7) := by decide +kernel
theorem S_30 : lm_S[30]? = some (1, 5) := by decide +kernel
theorem S_31 : lm_S[31]? = some (0, 5) := by decide +kernel
theorem S_32 : lm_S[32]? = some (0, 6) := by decide +kernel
theorem S_33 : lm_S[33]? = some (1, 35) := by decide +kernel
theorem S_34 : lm_S[34]? = some (2, 35) := by decide +kernel
theorem S_35 : lm_S[35]? = some (1, 35) := by decide +kernel
theorem S_36 : lm_S[36]? = some (1, 5) := by decide +kernel
theorem S_37 : lm_S[37]? = some (0, 9) := by decide +kernel
theorem S_38 : lm_S[38]? = some (1, 5) := by decide +kernel
theorem S_39 : lm_S[39]? = some (1, 5) := by decide +kernel
theorem S_40 : lm_S[40]? = some (1, 7) := by decide +kernel
theorem S_41 : lm_S[41]? = some (1, 5) := by decide +kernel
theorem S_42 : lm_S[42]? = some (1, 5) := by decide +kernel
theorem S_43 : lm_S[43]? = some (1, 1120) := by decide +kernel
theorem S_44 : lm_S[44]? = some (1, 5) := by decide +kernel
theorem S_45 : lm_S[45]? = some (4, 263) := by decide +kernel
theorem S_46 : lm_S[46]? = some (10, 0) := by decide +kernel
theorem S_47 : lm_S[47]? = some (10, 0) := by decide +kernel
theorem S_48 : lm_S[48]? = some (10, 0) := by decide +kernel
theorem S_49 : lm_S[49]? = some (0, 8) := by decide +kernel
theorem S_50 : lm_S[50]? = some (1, 5) := by decide +kernel
theorem S_51 : lm_S[51]? = some (4, 263) := by decide +kernel
theorem S_52 : lm_S[52]? = some (0, 0) := by decide +kernel
theorem S_53 : lm_S[53]? = some (1, 30) := by decide +kernel
theorem S_54 : lm_S[54]? = some (4, 5) := by decide +kernel
theorem S_55 : lm_S[55]? = some (4, 66) := by decide +kernel
theorem S_56 : lm_S[56]? = some (4, 77) := by decide +kernel
theorem S_57 : lm_S[57]? = some (1, 77) := by decide +kernel
theorem S_58 : lm_S[58]? = some (0, 10) := by decide +kernel
theorem S_59 : lm_S[59]? = some (0, 6) := by decide +kernel
theorem S_60 : lm_S[60]? = some (1, 35) := by decide +kernel
theorem S_61 : lm_S[61]? = some (2, 35) := by decide +kernel
theorem S_62 : lm_S[62]? = some (1, 35) := by decide +kernel
theorem S_63 : lm_S[63]? = some (1, 5) := by decide +kernel
theorem S_64 : lm_S[64]? = some (1, 200) := by decide +kernel
theorem S_65 : lm_S[65]? = some (1, 200) := by decide +kernel
theorem S_66 : lm_S[66]? = some (1, 5) := by decide +kernel
theorem S_67 : lm_S[67]? = some (1, 30) := by decide +kernel
theorem S_68 : lm_S[68]? = some (1, 30) := by decide +kernel
theorem S_69 : lm_S[69]? = some (1, 5) := by decide +kernel
theorem S_70 : lm_S[70]? = some (1, 5) := by decide +kernel
theorem S_71 : lm_S[71]? = some (1, 5) := by decide +kernel
theorem S_72 : lm_S[72]? = some (1, 5) := by decide +kernel
theorem S_73 : lm_S[73]? = some (1, 5) := by decide +kernel
theorem S_74 : lm_S[74]? = some (1, 30) := by decide +kernel
theorem S_75 : lm_S[75]? = some (1, 5) := by decide +kernel
theorem S_76 : lm_S[76]? = some (0, 4) := by decide +kernel
theorem S_77 : lm_S[77]? = some (1, 5) := by decide +kernel
theorem S_78 : lm_S[78]? = some (1, 6) := by decide +kernel
theorem S_79 : lm_S[79]? = some (1, 30) := by decide +kernel
theorem S_80 : lm_S[80]? = some (1, 5) := by decide +kernel
theorem S_81 : lm_S[81]? = some (1, 30) := by decide +kernel
theorem S_82 : lm_S[82]? = some (1, 5) := by decide +kernel
theorem S_83 : lm_S[83]? = some (5, 6) := by decide +kernel
theorem S_84 : lm_S[84]? = some (0, 4) := by decide +kernel
theorem S_85 : lm_S[85]? = some (1, 5) := by decide +kernel
theorem S_86 : lm_S[86]? = some (1, 6) := by decide +kernel
theorem S_87 : lm_S[87]? = some (1, 30) := by decide +kernel
theorem S_88 : lm_S[88]? = some (1, 5) := by decide +kernel
theorem S_89 : lm_S[89]? = some (1, 30) := by decide +kernel
theorem S_90 : lm_S[90]? = some (1, 5) := by decide +kernel
theorem S_91 : lm_S[91]? = some (5, 6) := by decide +kernel
theorem S_92 : lm_S[92]? = some (0, 12) := by decide +kernel
theorem S_93 : lm_S[93]? = some (1, 7) := by decide +kernel
theorem S_94 : lm_S[94]? = some (1, 4893) := by decide +kernel
theorem S_95 : lm_S[95]? = some (1, 9786) := by decide +kernel
theorem S_96 : lm_S[96]? = some (2, 2) := by decide +kernel
theorem S_97 : lm_S[97]? = some (3, 64) := by decide +kernel
theorem S_98 : lm_S[98]? = some (3, 400) := by decide +kernel
theorem S_99 : lm_S[99]? = some (1, 5) := by decide +kernel
theorem S_100 : lm_S[100]? = some (1, 401) := by decide +kernel
theorem S_101 : lm_S[101]? = some (1, 401) := by decide +kernel
theorem S_102 : lm_S[102]? = some (1, 401) := by decide +kernel
theorem S_103 : lm_S[103]? = some (1, 7) := by decide +kernel
theorem S_104 : lm_S[104]? = some (1, 30) := by decide +kernel
theorem S_105 : lm_S[105]? = some (2, 30) := by decide +kernel
theorem S_106 : lm_S[106]? = some (1, 30) := by decide +kernel
theorem S_107 : lm_S[107]? = some (1, 5) := by decide +kernel
theorem S_108 : lm_S[108]? = some (1, 16807) := by decide +kernel
theorem S_109 : lm_S[109]? = some (2, 16807) := by decide +kernel
theorem S_110 : lm_S[110]? = some (1, 5) := by decide +kernel
theorem S_111 : lm_S[111]? = some (1, 30) := by decide +kernel
theorem S_112 : lm_S[112]? = some (4, 6) := by decide +kernel
theorem S_113 : lm_S[113]? = some (1, 6) := by decide +kernel
theorem S_114 : lm_S[114]? = some (1, 6) := by decide +kernel
theorem S_115 : lm_S[115]? = some (1, 200) := by decide +kernel
theorem S_116 : lm_S[116]? = some (1, 200) := by decide +kernel
theorem S_117 : lm_S[117]? = some (1, 200) := by decide +kernel
theorem S_118 : lm_S[118]? = some (1, 30) := by decide +kernel
theorem F_0_0 : lm_Fs 0 0 = some 1 := by decide +kernel
theorem F_0_1 : lm_Fs 0 1 = some 9 := by decide +kernel
theorem F_0_2 : lm_Fs 0 2 = some 10 := by decide +kernel
theorem F_0_3 : lm_Fs 0 3 = some 11 := by decide +kernel
theorem F_0_4 : lm_Fs 0 4 = some 13 := by decide +kernel
theorem F_0_5 : lm_Fs 0 5 = some 18 := by decide +kernel
theorem F_0_6 : lm_Fs 0 6 = some 21 := by decide +kernel
theorem F_0_7 : lm_Fs 0 7 = some 26 := by decide +kernel
theorem F_0_8 : lm_Fs 0 8 = some 31 := by decide +kernel
theorem F_0_9 : lm_Fs 0 9 = some 49 := by decide +kernel
theorem F_0_10 : lm_Fs 0 10 = some 52 := by decide +kernel
theorem F_0_11 : lm_Fs 0 11 = some 58 := by decide +kernel
theorem F_0_12 : lm_Fs 0 12 = some 73 := by decide +kernel
theorem F_0_13 : lm_Fs 0 13 = some 74 := by decide +kernel
theorem F_0_14 : lm_Fs 0 14 = some 75 := by decide +kernel
theorem F_1_6 : lm_Fs 1 6 = some 2 := by decide +kernel
theorem F_1_7 : lm_Fs 1 7 = some 3 := by decide +kernel
theorem F_1_8 : lm_Fs 1 8 = some 4 := by decide +kernel
theorem F_1_9 : lm_Fs 1 9 = some 5 := by decide +kernel
theorem F_1_10 : lm_Fs 1 10 = some 6 := by decide +kernel
theorem F_1_11 : lm_Fs 1 11 = some 7 := by decide +kernel
theorem F_1_12 : lm_Fs 1 12 = some 8 := by decide +kernel
theorem F_9_0 : lm_Fs 9 0 = some 76 := by decide +kernel
theorem F_9_1 : lm_Fs 9 1 = some 84 := by decide +kernel
theorem F_11_0 : lm_Fs 11 0 = some 12 := by decide +kernel
theorem F_13_0 : lm_Fs 13 0 = some 14 := by decide +kernel
theorem F_13_1 : lm_Fs 13 1 = some 15 := by decide +kernel
theorem F_13_2 : lm_Fs 13 2 = some 16 := by decide +kernel
theorem F_13_3 : lm_Fs 13 3 = some 17 := by decide +kernel
theorem F_18_0 : lm_Fs 18 0 = some 19 := by decide +kernel
theorem F_18_1 : lm_Fs 18 1 = some 20 := by decide +kernel
theorem F_21_4 : lm_Fs 21 4 = some 22 := by decide +kernel
theorem F_21_5 : lm_Fs 21 5 = some 23 := by decide +kernel
theorem F_21_6 : lm_Fs 21 6 = some 24 := by decide +kernel
theorem F_21_7 : lm_Fs 21 7 = some 25 := by decide +kernel
theorem F_26_0 : lm_Fs 26 0 = some 27 := by decide +kernel
theorem F_26_1 : lm_Fs 26 1 = some 28 := by decide +kernel
theorem F_26_2 : lm_Fs 26 2 = some 29 := by decide +kernel
theorem F_26_3 : lm_Fs 26 3 = some 30 := by decide +kernel
theorem F_31_0 : lm_Fs 31 0 = some 32 := by decide +kernel
theorem F_31_1 : lm_Fs 31 1 = some 37 := by decide +kernel
theorem F_31_3 : lm_Fs 31 3 = some 42 := by decide +kernel
theorem F_31_4 : lm_Fs 31 4 = some 43 := by decide +kernel
theorem F_31_5 : lm_Fs 31 5 = some 44 := by decide +kernel
theorem F_31_6 : lm_Fs 31 6 = some 45 := by decide +kernel
theorem F_32_4 : lm_Fs 32 4 = some 33 := by decide +kernel
theorem F_32_5 : lm_Fs 32 5 = some 34 := by decide +kernel
theorem F_32_6 : lm_Fs 32 6 = some 35 := by decide +kernel
theorem F_32_7 : lm_Fs 32 7 = some 36 := by decide +kernel
theorem F_37_0 : lm_Fs 37 0 = some 38 := by decide +kernel
theorem F_37_1 : lm_Fs 37 1 = some 39 := by decide +kernel
theorem F_37_2 : lm_Fs 37 2 = some 40 := by decide +kernel
theorem F_37_3 : lm_Fs 37 3 = some 41 := by decide +kernel
theorem F_49_0 : lm_Fs 49 0 = some 50 := by decide +kernel
theorem F_49_1 : lm_Fs 49 1 = some 51 := by decide +kernel
theorem F_52_0 : lm_Fs 52 0 = some 53 := by decide +kernel
theorem F_52_1 : lm_Fs 52 1 = some 54 := by decide +kernel
theorem F_52_2 : lm_Fs 52 2 = some 55 := by decide +kernel
theorem F_52_3 : lm_Fs 52 3 = some 56 := by decide +kernel
theorem F_52_4 : lm_Fs 52 4 = some 57 := by decide +kernel
theorem F_58_0 : lm_Fs 58 0 = some 59 := by decide +kernel
theorem F_58_1 : lm_Fs 58 1 = some 64 := by decide +kernel
theorem F_58_2 : lm_Fs 58 2 = some 65 := by decide +kernel
theorem F_58_3 : lm_Fs 58 3 = some 66 := by decide +kernel
theorem F_58_7 : lm_Fs 58 7 = some 67 := by decide +kernel
theorem F_58_8 : lm_Fs 58 8 = some 68 := by decide +kernel
theorem F_58_9 : lm_Fs 58 9 = some 69 := by decide +kernel
theorem F_58_10 : lm_Fs 58 10 = some 70 := by decide +kernel
theorem F_58_11 : lm_Fs 58 11 = some 71 := by decide +kernel
theorem F_58_12 : lm_Fs 58 12 = some 72 := by decide +kernel
theorem F_59_4 : lm_Fs 59 4 = some 60 := by decide +kernel
theorem F_59_5 : lm_Fs 59 5 = some 61 := by decide +kernel
theorem F_59_6 : lm_Fs 59 6 = some 62 := by decide +kernel
theorem F_59_7 : lm_Fs 59 7 = some 63 := by decide +kernel
theorem F_76_6 : lm_Fs 76 6 = some 77 := by decide +kernel
theorem F_76_7 : lm_Fs 76 7 = some 78 := by decide +kernel
theorem F_76_8 : lm_Fs 76 8 = some 79 := by decide +kernel
theorem F_76_9 : lm_Fs 76 9 = some 80 := by decide +kernel
theorem F_76_10 : lm_Fs 76 10 = some 81 := by decide +kernel
theorem F_76_11 : lm_Fs 76 11 = some 82 := by decide +kernel
theorem F_76_12 : lm_Fs 76 12 = some 83 := by decide +kernel
theorem F_84_6 : lm_Fs 84 6 = some 85 := by decide +kernel
theorem F_84_7 : lm_Fs 84 7 = some 86 := by decide +kernel
theorem F_84_8 : lm_Fs 84 8 = some 87 := by decide +kernel
theorem F_84_9 : lm_Fs 84 9 = some 88 := by decide +kernel
theorem F_84_10 : lm_Fs 84 10 = some 89 := by decide +kernel
theorem F_84_11 : lm_Fs 84 11 = some 90 := by decide +kernel
theorem F_84_12 : lm_Fs 84 12 = some 91 := by decide +kernel
theorem F_92_2 : lm_Fs 92 2 = some 93 := by decide +kernel
theorem F_92_3 : lm_Fs 92 3 = some 94 := by decide +kernel
theorem F_92_4 : lm_Fs 92 4 = some 95 := by decide +kernel
theorem F_92_5 : lm_Fs 92 5 = some 96 := by decide +kernel
theorem F_92_7 : lm_Fs 92 7 = some 97 := by decide +kernel
theorem F_92_8 : lm_Fs 92 8 = some 98 := by decide +kernel
theorem F_92_9 : lm_Fs 92 9 = some 99 := by decide +kernel
theorem F_92_12 : lm_Fs 92 12 = some 100 := by decide +kernel
theorem F_92_13 : lm_Fs 92 13 = some 101 := by decide +kernel
theorem F_92_14 : lm_Fs 92 14 = some 102 := by decide +kernel
theorem F_92_22 : lm_Fs 92 22 = some 103 := by decide +kernel
theorem F_92_25 : lm_Fs 92 25 = some 104 := by decide +kernel
theorem F_92_26 : lm_Fs 92 26 = some 105 := by decide +kernel
theorem F_92_27 : lm_Fs 92 27 = some 106 := by decide +kernel
theorem F_92_29 : lm_Fs 92 29 = some 107 := by decide +kernel
theorem F_92_38 : lm_Fs 92 38 = some 108 := by decide +kernel
theorem F_92_40 : lm_Fs 92 40 = some 109 := by decide +kernel
theorem F_92_43 : lm_Fs 92 43 = some 110 := by decide +kernel
theorem F_92_44 : lm_Fs 92 44 = some 111 := by decide +kernel
theorem F_92_45 : lm_Fs 92 45 = some 112 := by decide +kernel
theorem F_92_46 : lm_Fs 92 46 = some 113 := by decide +kernel
theorem F_92_47 : lm_Fs 92 47 = some 114 := by decide +kernel
theorem F_92_51 : lm_Fs 92 51 = some 115 := by decide +kernel
theorem F_92_52 : lm_Fs 92 52 = some 116 := by decide +kernel
theorem F_92_53 : lm_Fs 92 53 = some 117 := by decide +kernel
theorem F_92_54 : lm_Fs 92 54 = some 118 := by decide +kernel
theorem ml_0 : lm_ml.getD 0 0 = 1 := by decide +kernel
theorem ow_0 : lm_own.getD 0 0 = 0 := by decide +kernel
theorem rV_0 : lm_rs.getD 0 none = none := by decide +kernel
theorem ml_1 : lm_ml.getD 1 0 = 5 := by decide +kernel
theorem ow_1 : lm_own.getD 1 0 = 0 := by decide +kernel
theorem rV_1 : lm_rs.getD 1 none = none := by decide +kernel
theorem ml_2 : lm_ml.getD 2 0 = 4 := by decide +kernel
theorem ow_2 : lm_own.getD 2 0 = 0 := by decide +kernel
theorem rZ_2 : lm_rZ 2 .long := by decide +kernel
theorem ml_3 : lm_ml.getD 3 0 = 7 := by decide +kernel
theorem ow_3 : lm_own.getD 3 0 = 0 := by decide +kernel
theorem rZ_3 : lm_rZ 3 .long := by decide +kernel
theorem ml_4 : lm_ml.getD 4 0 = 3 := by decide +kernel
theorem ow_4 : lm_own.getD 4 0 = 0 := by decide +kernel
theorem rV_4 : lm_rs.getD 4 none = none := by decide +kernel
theorem ml_5 : lm_ml.getD 5 0 = 6 := by decide +kernel
theorem ow_5 : lm_own.getD 5 0 = 0 := by decide +kernel
theorem rZ_5 : lm_rZ 5 .long := by decide +kernel
theorem ml_6 : lm_ml.getD 6 0 = 8 := by decide +kernel
theorem ow_6 : lm_own.getD 6 0 = 0 := by decide +kernel
theorem rZ_6 : lm_rZ 6 .long := by decide +kernel
theorem ml_7 : lm_ml.getD 7 0 = 4 := by decide +kernel
theorem ow_7 : lm_own.getD 7 0 = 0 := by decide +kernel
theorem rV_7 : lm_rs.getD 7 none = none := by decide +kernel
theorem ml_8 : lm_ml.getD 8 0 = 7 := by decide +kernel
theorem ow_8 : lm_own.getD 8 0 = 0 := by decide +kernel
theorem rZ_8 : lm_rZ 8 .long := by decide +kernel
theorem ml_9 : lm_ml.getD 9 0 = 7 := by decide +kernel
theorem ow_9 : lm_own.getD 9 0 = 0 := by decide +kernel
theorem rV_9 : lm_rs.getD 9 none = none := by decide +kernel
theorem ml_10 : lm_ml.getD 10 0 = 4 := by decide +kernel
theorem ow_10 : lm_own.getD 10 0 = 0 := by decide +kernel
theorem rZ_10 : lm_rZ 10 .long := by decide +kernel
theorem ml_11 : lm_ml.getD 11 0 = 2 := by decide +kernel
theorem ow_11 : lm_own.getD 11 0 = 0 := by decide +kernel
theorem rZ_11 : lm_rZ 11 .long := by decide +kernel
theorem ml_12 : lm_ml.getD 12 0 = 1 := by decide +kernel
theorem ow_12 : lm_own.getD 12 0 = 0 := by decide +kernel
theorem rI_12 : lm_rI 12 := ⟨.int, by decide +kernel, rfl⟩
theorem ml_13 : lm_ml.getD 13 0 = 6 := by decide +kernel
theorem ow_13 : lm_own.getD 13 0 = 0 := by decide +kernel
theorem rI_13 : lm_rI 13 := ⟨.int, by decide +kernel, rfl⟩
theorem ml_14 : lm_ml.getD 14 0 = 1 := by decide +kernel
theorem ow_14 : lm_own.getD 14 0 = 1 := by decide +kernel
theorem rV_14 : lm_rs.getD 14 none = none := by decide +kernel
theorem ml_15 : lm_ml.getD 15 0 = 9 := by decide +kernel
theorem ow_15 : lm_own.getD 15 0 = 1 := by decide +kernel
theorem rV_15 : lm_rs.getD 15 none = none := by decide +kernel
theorem ml_16 : lm_ml.getD 16 0 = 1 := by decide +kernel
theorem ow_16 : lm_own.getD 16 0 = 1 := by decide +kernel
theorem rZ_16 : lm_rZ 16 .boolean := by decide +kernel
theorem ml_17 : lm_ml.getD 17 0 = 3 := by decide +kernel
theorem ow_17 : lm_own.getD 17 0 = 1 := by decide +kernel
theorem rV_17 : lm_rs.getD 17 none = none := by decide +kernel
theorem ml_18 : lm_ml.getD 18 0 = 1 := by decide +kernel
theorem ow_18 : lm_own.getD 18 0 = 1 := by decide +kernel
theorem rZ_18 : lm_rZ 18 .long := by decide +kernel
theorem ml_19 : lm_ml.getD 19 0 = 4 := by decide +kernel
theorem ow_19 : lm_own.getD 19 0 = 1 := by decide +kernel
theorem rV_19 : lm_rs.getD 19 none = none := by decide +kernel
theorem ml_20 : lm_ml.getD 20 0 = 7 := by decide +kernel
theorem ow_20 : lm_own.getD 20 0 = 1 := by decide +kernel
theorem rV_20 : lm_rs.getD 20 none = none := by decide +kernel
theorem ml_21 : lm_ml.getD 21 0 = 6 := by decide +kernel
theorem ow_21 : lm_own.getD 21 0 = 1 := by decide +kernel
theorem rZ_21 : lm_rZ 21 .long := by decide +kernel
theorem ml_22 : lm_ml.getD 22 0 = 3 := by decide +kernel
theorem ow_22 : lm_own.getD 22 0 = 1 := by decide +kernel
theorem rZ_22 : lm_rZ 22 .long := by decide +kernel
theorem ml_23 : lm_ml.getD 23 0 = 2 := by decide +kernel
theorem ow_23 : lm_own.getD 23 0 = 2 := by decide +kernel
theorem rV_23 : lm_rs.getD 23 none = none := by decide +kernel
theorem ml_24 : lm_ml.getD 24 0 = 1 := by decide +kernel
theorem ow_24 : lm_own.getD 24 0 = 3 := by decide +kernel
theorem rV_24 : lm_rs.getD 24 none = none := by decide +kernel
theorem ml_25 : lm_ml.getD 25 0 = 5 := by decide +kernel
theorem ow_25 : lm_own.getD 25 0 = 3 := by decide +kernel
theorem rZ_25 : lm_rZ 25 (.object "SoleGuest$Law") := by decide +kernel
theorem ml_26 : lm_ml.getD 26 0 = 6 := by decide +kernel
theorem ow_26 : lm_own.getD 26 0 = 3 := by decide +kernel
theorem rV_26 : lm_rs.getD 26 none = none := by decide +kernel
theorem ml_27 : lm_ml.getD 27 0 = 1 := by decide +kernel
theorem ow_27 : lm_own.getD 27 0 = 3 := by decide +kernel
theorem rZ_27 : lm_rZ 27 .boolean := by decide +kernel
theorem ml_28 : lm_ml.getD 28 0 = 1 := by decide +kernel
theorem ow_28 : lm_own.getD 28 0 = 3 := by decide +kernel
theorem rZ_28 : lm_rZ 28 .boolean := by decide +kernel
theorem ml_29 : lm_ml.getD 29 0 = 5 := by decide +kernel
theorem ow_29 : lm_own.getD 29 0 = 3 := by decide +kernel
theorem rI_29 : lm_rI 29 := ⟨.int, by decide +kernel, rfl⟩
theorem ml_30 : lm_ml.getD 30 0 = 4 := by decide +kernel
theorem ow_30 : lm_own.getD 30 0 = 3 := by decide +kernel
theorem rI_30 : lm_rI 30 := ⟨.int, by decide +kernel, rfl⟩
theorem ml_31 : lm_ml.getD 31 0 = 1 := by decide +kernel
theorem ow_31 : lm_own.getD 31 0 = 3 := by decide +kernel
theorem rZ_31 : lm_rZ 31 (.object "java/lang/String") := by decide +kernel
theorem ml_32 : lm_ml.getD 32 0 = 5 := by decide +kernel
theorem ow_32 : lm_own.getD 32 0 = 3 := by decide +kernel
theorem rZ_32 : lm_rZ 32 .boolean := by decide +kernel
theorem ml_33 : lm_ml.getD 33 0 = 1 := by decide +kernel
theorem ow_33 : lm_own.getD 33 0 = 3 := by decide +kernel
theorem rI_33 : lm_rI 33 := ⟨.int, by decide +kernel, rfl⟩
theorem ml_34 : lm_ml.getD 34 0 = 1 := by decide +kernel
theorem ow_34 : lm_own.getD 34 0 = 3 := by decide +kernel
theorem rZ_34 : lm_rZ 34 .boolean := by decide +kernel
theorem ml_35 : lm_ml.getD 35 0 = 3 := by decide +kernel
theorem ow_35 : lm_own.getD 35 0 = 3 := by decide +kernel
theorem rV_35 : lm_rs.getD 35 none = none := by decide +kernel
theorem ml_36 : lm_ml.getD 36 0 = 3 := by decide +kernel
theorem ow_36 : lm_own.getD 36 0 = 3 := by decide +kernel
theorem rV_36 : lm_rs.getD 36 none = none := by decide +kernel
theorem ml_37 : lm_ml.getD 37 0 = 4 := by decide +kernel
theorem ow_37 : lm_own.getD 37 0 = 3 := by decide +kernel
theorem rZ_37 : lm_rZ 37 .boolean := by decide +kernel
theorem ml_38 : lm_ml.getD 38 0 = 5 := by decide +kernel
theorem ow_38 : lm_own.getD 38 0 = 3 := by decide +kernel
theorem rZ_38 : lm_rZ 38 .boolean := by decide +kernel
theorem ml_39 : lm_ml.getD 39 0 = 5 := by decide +kernel
theorem ow_39 : lm_own.getD 39 0 = 3 := by decide +kernel
theorem rZ_39 : lm_rZ 39 .boolean := by decide +kernel
theorem ml_40 : lm_ml.getD 40 0 = 4 := by decide +kernel
theorem ow_40 : lm_own.getD 40 0 = 3 := by decide +kernel
theorem rZ_40 : lm_rZ 40 .boolean := by decide +kernel
theorem ml_41 : lm_ml.getD 41 0 = 2 := by decide +kernel
theorem ow_41 : lm_own.getD 41 0 = 3 := by decide +kernel
theorem rZ_41 : lm_rZ 41 .boolean := by decide +kernel
theorem ml_42 : lm_ml.getD 42 0 = 3 := by decide +kernel
theorem ow_42 : lm_own.getD 42 0 = 3 := by decide +kernel
theorem rZ_42 : lm_rZ 42 .boolean := by decide +kernel
theorem ml_43 : lm_ml.getD 43 0 = 1 := by decide +kernel
theorem ow_43 : lm_own.getD 43 0 = 3 := by decide +kernel
theorem rI_43 : lm_rI 43 := ⟨.int, by decide +kernel, rfl⟩
theorem ml_44 : lm_ml.getD 44 0 = 2 := by decide +kernel
theorem ow_44 : lm_own.getD 44 0 = 3 := by decide +kernel
theorem rZ_44 : lm_rZ 44 .boolean := by decide +kernel
theorem ml_45 : lm_ml.getD 45 0 = 5 := by decide +kernel
theorem ow_45 : lm_own.getD 45 0 = 3 := by decide +kernel
theorem rZ_45 : lm_rZ 45 .boolean := by decide +kernel
theorem ml_46 : lm_ml.getD 46 0 = 5 := by decide +kernel
theorem ow_46 : lm_own.getD 46 0 = 3 := by decide +kernel
theorem rZ_46 : lm_rZ 46 .boolean := by decide +kernel
theorem ml_47 : lm_ml.getD 47 0 = 5 := by decide +kernel
theorem ow_47 : lm_own.getD 47 0 = 3 := by decide +kernel
theorem rZ_47 : lm_rZ 47 .boolean := by decide +kernel
theorem ml_48 : lm_ml.getD 48 0 = 2 := by decide +kernel
theorem ow_48 : lm_own.getD 48 0 = 4 := by decide +kernel
theorem rV_48 : lm_rs.getD 48 none = none := by decide +kernel
theorem ml_49 : lm_ml.getD 49 0 = 2 := by decide +kernel
theorem ow_49 : lm_own.getD 49 0 = 4 := by decide +kernel
theorem rZ_49 : lm_rZ 49 .boolean := by decide +kernel
theorem ml_50 : lm_ml.getD 50 0 = 2 := by decide +kernel
theorem ow_50 : lm_own.getD 50 0 = 4 := by decide +kernel
theorem rZ_50 : lm_rZ 50 .boolean := by decide +kernel
theorem ml_51 : lm_ml.getD 51 0 = 3 := by decide +kernel
theorem ow_51 : lm_own.getD 51 0 = 4 := by decide +kernel
theorem rZ_51 : lm_rZ 51 .boolean := by decide +kernel
theorem ml_52 : lm_ml.getD 52 0 = 4 := by decide +kernel
theorem ow_52 : lm_own.getD 52 0 = 4 := by decide +kernel
theorem rI_52 : lm_rI 52 := ⟨.int, by decide +kernel, rfl⟩
theorem ml_53 : lm_ml.getD 53 0 = 3 := by decide +kernel
theorem ow_53 : lm_own.getD 53 0 = 4 := by decide +kernel
theorem rV_53 : lm_rs.getD 53 none = none := by decide +kernel
theorem ml_54 : lm_ml.getD 54 0 = 1 := by decide +kernel
theorem ow_54 : lm_own.getD 54 0 = 5 := by decide +kernel
theorem rV_54 : lm_rs.getD 54 none = none := by decide +kernel
theorem ml_55 : lm_ml.getD 55 0 = 6 := by decide +kernel
theorem ow_55 : lm_own.getD 55 0 = 5 := by decide +kernel
theorem rV_55 : lm_rs.getD 55 none = none := by decide +kernel
theorem ml_56 : lm_ml.getD 56 0 = 4 := by decide +kernel
theorem ow_56 : lm_own.getD 56 0 = 5 := by decide +kernel
theorem rI_56 : lm_rI 56 := ⟨.int, by decide +kernel, rfl⟩
theorem ml_57 : lm_ml.getD 57 0 = 5 := by decide +kernel
theorem ow_57 : lm_own.getD 57 0 = 5 := by decide +kernel
theorem rV_57 : lm_rs.getD 57 none = none := by decide +kernel
theorem ml_58 : lm_ml.getD 58 0 = 11 := by decide +kernel
theorem ow_58 : lm_own.getD 58 0 = 5 := by decide +kernel
theorem rV_58 : lm_rs.getD 58 none = none := by decide +kernel
theorem ml_59 : lm_ml.getD 59 0 = 6 := by decide +kernel
theorem ow_59 : lm_own.getD 59 0 = 5 := by decide +kernel
theorem rZ_59 : lm_rZ 59 .boolean := by decide +kernel
theorem ml_60 : lm_ml.getD 60 0 = 3 := by decide +kernel
theorem ow_60 : lm_own.getD 60 0 = 5 := by decide +kernel
theorem rV_60 : lm_rs.getD 60 none = none := by decide +kernel
theorem ml_61 : lm_ml.getD 61 0 = 1 := by decide +kernel
theorem ow_61 : lm_own.getD 61 0 = 6 := by decide +kernel
theorem rV_61 : lm_rs.getD 61 none = none := by decide +kernel
theorem ml_62 : lm_ml.getD 62 0 = 9 := by decide +kernel
theorem ow_62 : lm_own.getD 62 0 = 6 := by decide +kernel
theorem rV_62 : lm_rs.getD 62 none = none := by decide +kernel
theorem ml_63 : lm_ml.getD 63 0 = 4 := by decide +kernel
theorem ow_63 : lm_own.getD 63 0 = 6 := by decide +kernel
theorem rV_63 : lm_rs.getD 63 none = none := by decide +kernel
theorem ml_64 : lm_ml.getD 64 0 = 5 := by decide +kernel
theorem ow_64 : lm_own.getD 64 0 = 6 := by decide +kernel
theorem rZ_64 : lm_rZ 64 .boolean := by decide +kernel
theorem ml_65 : lm_ml.getD 65 0 = 3 := by decide +kernel
theorem ow_65 : lm_own.getD 65 0 = 6 := by decide +kernel
theorem rV_65 : lm_rs.getD 65 none = none := by decide +kernel
theorem ml_66 : lm_ml.getD 66 0 = 3 := by decide +kernel
theorem ow_66 : lm_own.getD 66 0 = 6 := by decide +kernel
theorem rI_66 : lm_rI 66 := ⟨.int, by decide +kernel, rfl⟩
theorem ml_67 : lm_ml.getD 67 0 = 5 := by decide +kernel
theorem ow_67 : lm_own.getD 67 0 = 6 := by decide +kernel
theorem rI_67 : lm_rI 67 := ⟨.int, by decide +kernel, rfl⟩
theorem ml_68 : lm_ml.getD 68 0 = 4 := by decide +kernel
theorem ow_68 : lm_own.getD 68 0 = 6 := by decide +kernel
theorem rI_68 : lm_rI 68 := ⟨.int, by decide +kernel, rfl⟩
theorem ml_69 : lm_ml.getD 69 0 = 5 := by decide +kernel
theorem ow_69 : lm_own.getD 69 0 = 6 := by decide +kernel
theorem rI_69 : lm_rI 69 := ⟨.int, by decide +kernel, rfl⟩
theorem ml_70 : lm_ml.getD 70 0 = 2 := by decide +kernel
theorem ow_70 : lm_own.getD 70 0 = 6 := by decide +kernel
theorem rI_70 : lm_rI 70 := ⟨.int, by decide +kernel, rfl⟩
theorem ml_71 : lm_ml.getD 71 0 = 4 := by decide +kernel
theorem ow_71 : lm_own.getD 71 0 = 6 := by decide +kernel
theorem rI_71 : lm_rI 71 := ⟨.int, by decide +kernel, rfl⟩
theorem ml_72 : lm_ml.getD 72 0 = 8 := by decide +kernel
theorem ow_72 : lm_own.getD 72 0 = 6 := by decide +kernel
theorem rI_72 : lm_rI 72 := ⟨.int, by decide +kernel, rfl⟩
theorem ml_73 : lm_ml.getD 73 0 = 1 := by decide +kernel
theorem ow_73 : lm_own.getD 73 0 = 7 := by decide +kernel
theorem rV_73 : lm_rs.getD 73 none = none := by decide +kernel
theorem ml_74 : lm_ml.getD 74 0 = 3 := by decide +kernel
theorem ow_74 : lm_own.getD 74 0 = 7 := by decide +kernel
theorem rV_74 : lm_rs.getD 74 none = none := by decide +kernel
theorem ml_75 : lm_ml.getD 75 0 = 1 := by decide +kernel
theorem ow_75 : lm_own.getD 75 0 = 8 := by decide +kernel
theorem rV_75 : lm_rs.getD 75 none = none := by decide +kernel
theorem ml_76 : lm_ml.getD 76 0 = 5 := by decide +kernel
theorem ow_76 : lm_own.getD 76 0 = 8 := by decide +kernel
theorem rV_76 : lm_rs.getD 76 none = none := by decide +kernel
theorem ml_77 : lm_ml.getD 77 0 = 5 := by decide +kernel
theorem ow_77 : lm_own.getD 77 0 = 8 := by decide +kernel
theorem rZ_77 : lm_rZ 77 .boolean := by decide +kernel
theorem ml_78 : lm_ml.getD 78 0 = 6 := by decide +kernel
theorem ow_78 : lm_own.getD 78 0 = 8 := by decide +kernel
theorem rZ_78 : lm_rZ 78 .boolean := by decide +kernel
theorem ml_79 : lm_ml.getD 79 0 = 1 := by decide +kernel
theorem ow_79 : lm_own.getD 79 0 = 9 := by decide +kernel
theorem rV_79 : lm_rs.getD 79 none = none := by decide +kernel
theorem ml_80 : lm_ml.getD 80 0 = 6 := by decide +kernel
theorem ow_80 : lm_own.getD 80 0 = 9 := by decide +kernel
theorem rI_80 : lm_rI 80 := ⟨.int, by decide +kernel, rfl⟩
theorem ml_81 : lm_ml.getD 81 0 = 5 := by decide +kernel
theorem ow_81 : lm_own.getD 81 0 = 9 := by decide +kernel
theorem rV_81 : lm_rs.getD 81 none = none := by decide +kernel
theorem ml_82 : lm_ml.getD 82 0 = 3 := by decide +kernel
theorem ow_82 : lm_own.getD 82 0 = 9 := by decide +kernel
theorem rI_82 : lm_rI 82 := ⟨.int, by decide +kernel, rfl⟩
theorem ml_83 : lm_ml.getD 83 0 = 6 := by decide +kernel
theorem ow_83 : lm_own.getD 83 0 = 9 := by decide +kernel
theorem rZ_83 : lm_rZ 83 .boolean := by decide +kernel
theorem ml_84 : lm_ml.getD 84 0 = 4 := by decide +kernel
theorem ow_84 : lm_own.getD 84 0 = 9 := by decide +kernel
theorem rZ_84 : lm_rZ 84 .boolean := by decide +kernel
theorem ml_85 : lm_ml.getD 85 0 = 1 := by decide +kernel
theorem ow_85 : lm_own.getD 85 0 = 10 := by decide +kernel
theorem rV_85 : lm_rs.getD 85 none = none := by decide +kernel
theorem ml_86 : lm_ml.getD 86 0 = 8 := by decide +kernel
theorem ow_86 : lm_own.getD 86 0 = 10 := by decide +kernel
theorem rI_86 : lm_rI 86 := ⟨.int, by decide +kernel, rfl⟩
theorem ml_87 : lm_ml.getD 87 0 = 2 := by decide +kernel
theorem ow_87 : lm_own.getD 87 0 = 10 := by decide +kernel
theorem rI_87 : lm_rI 87 := ⟨.int, by decide +kernel, rfl⟩
theorem ml_88 : lm_ml.getD 88 0 = 5 := by decide +kernel
theorem ow_88 : lm_own.getD 88 0 = 10 := by decide +kernel
theorem rI_88 : lm_rI 88 := ⟨.int, by decide +kernel, rfl⟩
theorem ml_89 : lm_ml.getD 89 0 = 6 := by decide +kernel
theorem ow_89 : lm_own.getD 89 0 = 10 := by decide +kernel
theorem rI_89 : lm_rI 89 := ⟨.int, by decide +kernel, rfl⟩
theorem ml_90 : lm_ml.getD 90 0 = 6 := by decide +kernel
theorem ow_90 : lm_own.getD 90 0 = 10 := by decide +kernel
theorem rI_90 : lm_rI 90 := ⟨.int, by decide +kernel, rfl⟩
theorem ml_91 : lm_ml.getD 91 0 = 5 := by decide +kernel
theorem ow_91 : lm_own.getD 91 0 = 10 := by decide +kernel
theorem rI_91 : lm_rI 91 := ⟨.int, by decide +kernel, rfl⟩
theorem ml_92 : lm_ml.getD 92 0 = 4 := by decide +kernel
theorem ow_92 : lm_own.getD 92 0 = 10 := by decide +kernel
theorem rI_92 : lm_rI 92 := ⟨.int, by decide +kernel, rfl⟩
theorem ml_93 : lm_ml.getD 93 0 = 4 := by decide +kernel
theorem ow_93 : lm_own.getD 93 0 = 10 := by decide +kernel
theorem rV_93 : lm_rs.getD 93 none = none := by decide +kernel
theorem ml_94 : lm_ml.getD 94 0 = 5 := by decide +kernel
theorem ow_94 : lm_own.getD 94 0 = 10 := by decide +kernel
theorem rI_94 : lm_rI 94 := ⟨.int, by decide +kernel, rfl⟩
theorem ml_95 : lm_ml.getD 95 0 = 6 := by decide +kernel
theorem ow_95 : lm_own.getD 95 0 = 10 := by decide +kernel
theorem rZ_95 : lm_rZ 95 .boolean := by decide +kernel
theorem ml_96 : lm_ml.getD 96 0 = 4 := by decide +kernel
theorem ow_96 : lm_own.getD 96 0 = 10 := by decide +kernel
theorem rZ_96 : lm_rZ 96 .boolean := by decide +kernel
theorem ml_97 : lm_ml.getD 97 0 = 2 := by decide +kernel
theorem ow_97 : lm_own.getD 97 0 = 11 := by decide +kernel
theorem rV_97 : lm_rs.getD 97 none = none := by decide +kernel
theorem ml_98 : lm_ml.getD 98 0 = 2 := by decide +kernel
theorem ow_98 : lm_own.getD 98 0 = 11 := by decide +kernel
theorem rI_98 : lm_rI 98 := ⟨.int, by decide +kernel, rfl⟩
theorem ml_99 : lm_ml.getD 99 0 = 2 := by decide +kernel
theorem ow_99 : lm_own.getD 99 0 = 11 := by decide +kernel
theorem rI_99 : lm_rI 99 := ⟨.int, by decide +kernel, rfl⟩
theorem ml_100 : lm_ml.getD 100 0 = 5 := by decide +kernel
theorem ow_100 : lm_own.getD 100 0 = 11 := by decide +kernel
theorem rI_100 : lm_rI 100 := ⟨.int, by decide +kernel, rfl⟩
theorem ml_101 : lm_ml.getD 101 0 = 4 := by decide +kernel
theorem ow_101 : lm_own.getD 101 0 = 11 := by decide +kernel
theorem rI_101 : lm_rI 101 := ⟨.int, by decide +kernel, rfl⟩
theorem ml_102 : lm_ml.getD 102 0 = 4 := by decide +kernel
theorem ow_102 : lm_own.getD 102 0 = 11 := by decide +kernel
theorem rI_102 : lm_rI 102 := ⟨.int, by decide +kernel, rfl⟩
theorem ml_103 : lm_ml.getD 103 0 = 6 := by decide +kernel
theorem ow_103 : lm_own.getD 103 0 = 11 := by decide +kernel
theorem rI_103 : lm_rI 103 := ⟨.int, by decide +kernel, rfl⟩
theorem ml_104 : lm_ml.getD 104 0 = 2 := by decide +kernel
theorem ow_104 : lm_own.getD 104 0 = 11 := by decide +kernel
theorem rI_104 : lm_rI 104 := ⟨.int, by decide +kernel, rfl⟩
theorem ml_105 : lm_ml.getD 105 0 = 4 := by decide +kernel
theorem ow_105 : lm_own.getD 105 0 = 11 := by decide +kernel
theorem rI_105 : lm_rI 105 := ⟨.int, by decide +kernel, rfl⟩
theorem ml_106 : lm_ml.getD 106 0 = 1 := by decide +kernel
theorem ow_106 : lm_own.getD 106 0 = 11 := by decide +kernel
theorem rI_106 : lm_rI 106 := ⟨.int, by decide +kernel, rfl⟩
theorem ml_107 : lm_ml.getD 107 0 = 3 := by decide +kernel
theorem ow_107 : lm_own.getD 107 0 = 11 := by decide +kernel
theorem rI_107 : lm_rI 107 := ⟨.int, by decide +kernel, rfl⟩
theorem ml_108 : lm_ml.getD 108 0 = 1 := by decide +kernel
theorem ow_108 : lm_own.getD 108 0 = 11 := by decide +kernel
theorem rI_108 : lm_rI 108 := ⟨.int, by decide +kernel, rfl⟩
theorem ml_109 : lm_ml.getD 109 0 = 3 := by decide +kernel
theorem ow_109 : lm_own.getD 109 0 = 11 := by decide +kernel
theorem rI_109 : lm_rI 109 := ⟨.int, by decide +kernel, rfl⟩
theorem ml_110 : lm_ml.getD 110 0 = 4 := by decide +kernel
theorem ow_110 : lm_own.getD 110 0 = 11 := by decide +kernel
theorem rI_110 : lm_rI 110 := ⟨.int, by decide +kernel, rfl⟩
theorem ml_111 : lm_ml.getD 111 0 = 2 := by decide +kernel
theorem ow_111 : lm_own.getD 111 0 = 11 := by decide +kernel
theorem rI_111 : lm_rI 111 := ⟨.int, by decide +kernel, rfl⟩
theorem ml_112 : lm_ml.getD 112 0 = 3 := by decide +kernel
theorem ow_112 : lm_own.getD 112 0 = 11 := by decide +kernel
theorem rI_112 : lm_rI 112 := ⟨.int, by decide +kernel, rfl⟩
theorem ml_113 : lm_ml.getD 113 0 = 4 := by decide +kernel
theorem ow_113 : lm_own.getD 113 0 = 11 := by decide +kernel
theorem rI_113 : lm_rI 113 := ⟨.int, by decide +kernel, rfl⟩
theorem ml_114 : lm_ml.getD 114 0 = 2 := by decide +kernel
theorem ow_114 : lm_own.getD 114 0 = 11 := by decide +kernel
theorem rI_114 : lm_rI 114 := ⟨.int, by decide +kernel, rfl⟩
theorem ml_115 : lm_ml.getD 115 0 = 2 := by decide +kernel
theorem ow_115 : lm_own.getD 115 0 = 11 := by decide +kernel
theorem rI_115 : lm_rI 115 := ⟨.int, by decide +kernel, rfl⟩
theorem ml_116 : lm_ml.getD 116 0 = 2 := by decide +kernel
theorem ow_116 : lm_own.getD 116 0 = 11 := by decide +kernel
theorem rI_116 : lm_rI 116 := ⟨.int, by decide +kernel, rfl⟩
theorem ml_117 : lm_ml.getD 117 0 = 1 := by decide +kernel
theorem ow_117 : lm_own.getD 117 0 = 11 := by decide +kernel
theorem rI_117 : lm_rI 117 := ⟨.int, by decide +kernel, rfl⟩
theorem ml_118 : lm_ml.getD 118 0 = 4 := by decide +kernel
theorem ow_118 : lm_own.getD 118 0 = 11 := by decide +kernel
theorem rI_118 : lm_rI 118 := ⟨.int, by decide +kernel, rfl⟩
theorem ml_119 : lm_ml.getD 119 0 = 2 := by decide +kernel
theorem ow_119 : lm_own.getD 119 0 = 11 := by decide +kernel
theorem rI_119 : lm_rI 119 := ⟨.int, by decide +kernel, rfl⟩
theorem ml_120 : lm_ml.getD 120 0 = 2 := by decide +kernel
theorem ow_120 : lm_own.getD 120 0 = 11 := by decide +kernel
theorem rI_120 : lm_rI 120 := ⟨.int, by decide +kernel, rfl⟩
theorem ml_121 : lm_ml.getD 121 0 = 2 := by decide +kernel
theorem ow_121 : lm_own.getD 121 0 = 11 := by decide +kernel
theorem rI_121 : lm_rI 121 := ⟨.int, by decide +kernel, rfl⟩
theorem ml_122 : lm_ml.getD 122 0 = 2 := by decide +kernel
theorem ow_122 : lm_own.getD 122 0 = 11 := by decide +kernel
theorem rI_122 : lm_rI 122 := ⟨.int, by decide +kernel, rfl⟩
theorem ml_123 : lm_ml.getD 123 0 = 2 := by decide +kernel
theorem ow_123 : lm_own.getD 123 0 = 11 := by decide +kernel
theorem rI_123 : lm_rI 123 := ⟨.int, by decide +kernel, rfl⟩
theorem ml_124 : lm_ml.getD 124 0 = 2 := by decide +kernel
theorem ow_124 : lm_own.getD 124 0 = 11 := by decide +kernel
theorem rI_124 : lm_rI 124 := ⟨.int, by decide +kernel, rfl⟩
theorem ml_125 : lm_ml.getD 125 0 = 5 := by decide +kernel
theorem ow_125 : lm_own.getD 125 0 = 11 := by decide +kernel
theorem rI_125 : lm_rI 125 := ⟨.int, by decide +kernel, rfl⟩
theorem ml_126 : lm_ml.getD 126 0 = 5 := by decide +kernel
theorem ow_126 : lm_own.getD 126 0 = 11 := by decide +kernel
theorem rZ_126 : lm_rZ 126 .long := by decide +kernel
theorem ml_127 : lm_ml.getD 127 0 = 2 := by decide +kernel
theorem ow_127 : lm_own.getD 127 0 = 11 := by decide +kernel
theorem rI_127 : lm_rI 127 := ⟨.int, by decide +kernel, rfl⟩
theorem ml_128 : lm_ml.getD 128 0 = 2 := by decide +kernel
theorem ow_128 : lm_own.getD 128 0 = 11 := by decide +kernel
theorem rZ_128 : lm_rZ 128 .long := by decide +kernel
theorem ml_129 : lm_ml.getD 129 0 = 2 := by decide +kernel
theorem ow_129 : lm_own.getD 129 0 = 11 := by decide +kernel
theorem rI_129 : lm_rI 129 := ⟨.int, by decide +kernel, rfl⟩
theorem ml_130 : lm_ml.getD 130 0 = 4 := by decide +kernel
theorem ow_130 : lm_own.getD 130 0 = 11 := by decide +kernel
theorem rI_130 : lm_rI 130 := ⟨.int, by decide +kernel, rfl⟩
theorem ml_131 : lm_ml.getD 131 0 = 3 := by decide +kernel
theorem ow_131 : lm_own.getD 131 0 = 11 := by decide +kernel
theorem rI_131 : lm_rI 131 := ⟨.int, by decide +kernel, rfl⟩
theorem ml_132 : lm_ml.getD 132 0 = 4 := by decide +kernel
theorem ow_132 : lm_own.getD 132 0 = 11 := by decide +kernel
theorem rI_132 : lm_rI 132 := ⟨.int, by decide +kernel, rfl⟩
theorem ml_133 : lm_ml.getD 133 0 = 2 := by decide +kernel
theorem ow_133 : lm_own.getD 133 0 = 11 := by decide +kernel
theorem rI_133 : lm_rI 133 := ⟨.int, by decide +kernel, rfl⟩
theorem ml_134 : lm_ml.getD 134 0 = 2 := by decide +kernel
theorem ow_134 : lm_own.getD 134 0 = 11 := by decide +kernel
theorem rI_134 : lm_rI 134 := ⟨.int, by decide +kernel, rfl⟩
theorem ml_135 : lm_ml.getD 135 0 = 2 := by decide +kernel
theorem ow_135 : lm_own.getD 135 0 = 11 := by decide +kernel
theorem rI_135 : lm_rI 135 := ⟨.int, by decide +kernel, rfl⟩
theorem ml_136 : lm_ml.getD 136 0 = 2 := by decide +kernel
theorem ow_136 : lm_own.getD 136 0 = 11 := by decide +kernel
theorem rI_136 : lm_rI 136 := ⟨.int, by decide +kernel, rfl⟩
theorem ml_137 : lm_ml.getD 137 0 = 2 := by decide +kernel
theorem ow_137 : lm_own.getD 137 0 = 11 := by decide +kernel
theorem rI_137 : lm_rI 137 := ⟨.int, by decide +kernel, rfl⟩
theorem ml_138 : lm_ml.getD 138 0 = 1 := by decide +kernel
theorem ow_138 : lm_own.getD 138 0 = 11 := by decide +kernel
theorem rI_138 : lm_rI 138 := ⟨.int, by decide +kernel, rfl⟩
theorem ml_139 : lm_ml.getD 139 0 = 2 := by decide +kernel
theorem ow_139 : lm_own.getD 139 0 = 11 := by decide +kernel
theorem rI_139 : lm_rI 139 := ⟨.int, by decide +kernel, rfl⟩
theorem ml_140 : lm_ml.getD 140 0 = 2 := by decide +kernel
theorem ow_140 : lm_own.getD 140 0 = 11 := by decide +kernel
theorem rI_140 : lm_rI 140 := ⟨.int, by decide +kernel, rfl⟩
theorem ml_141 : lm_ml.getD 141 0 = 1 := by decide +kernel
theorem ow_141 : lm_own.getD 141 0 = 11 := by decide +kernel
theorem rI_141 : lm_rI 141 := ⟨.int, by decide +kernel, rfl⟩
theorem ml_142 : lm_ml.getD 142 0 = 5 := by decide +kernel
theorem ow_142 : lm_own.getD 142 0 = 11 := by decide +kernel
theorem rZ_142 : lm_rZ 142 .boolean := by decide +kernel
theorem ml_143 : lm_ml.getD 143 0 = 1 := by decide +kernel
theorem ow_143 : lm_own.getD 143 0 = 11 := by decide +kernel
theorem rV_143 : lm_rs.getD 143 none = none := by decide +kernel
theorem ml_144 : lm_ml.getD 144 0 = 2 := by decide +kernel
theorem ow_144 : lm_own.getD 144 0 = 11 := by decide +kernel
theorem rV_144 : lm_rs.getD 144 none = none := by decide +kernel
theorem ml_145 : lm_ml.getD 145 0 = 1 := by decide +kernel
theorem ow_145 : lm_own.getD 145 0 = 11 := by decide +kernel
theorem rV_145 : lm_rs.getD 145 none = none := by decide +kernel
theorem ml_146 : lm_ml.getD 146 0 = 1 := by decide +kernel
theorem ow_146 : lm_own.getD 146 0 = 11 := by decide +kernel
theorem rZ_146 : lm_rZ 146 .boolean := by decide +kernel
theorem ml_147 : lm_ml.getD 147 0 = 2 := by decide +kernel
theorem ow_147 : lm_own.getD 147 0 = 11 := by decide +kernel
theorem rI_147 : lm_rI 147 := ⟨.int, by decide +kernel, rfl⟩
theorem ml_148 : lm_ml.getD 148 0 = 2 := by decide +kernel
theorem ow_148 : lm_own.getD 148 0 = 11 := by decide +kernel
theorem rI_148 : lm_rI 148 := ⟨.int, by decide +kernel, rfl⟩
theorem ml_149 : lm_ml.getD 149 0 = 1 := by decide +kernel
theorem ow_149 : lm_own.getD 149 0 = 11 := by decide +kernel
theorem rI_149 : lm_rI 149 := ⟨.int, by decide +kernel, rfl⟩
theorem ml_150 : lm_ml.getD 150 0 = 2 := by decide +kernel
theorem ow_150 : lm_own.getD 150 0 = 11 := by decide +kernel
theorem rI_150 : lm_rI 150 := ⟨.int, by decide +kernel, rfl⟩
theorem ml_151 : lm_ml.getD 151 0 = 4 := by decide +kernel
theorem ow_151 : lm_own.getD 151 0 = 11 := by decide +kernel
theorem rI_151 : lm_rI 151 := ⟨.int, by decide +kernel, rfl⟩
theorem ml_152 : lm_ml.getD 152 0 = 3 := by decide +kernel
theorem ow_152 : lm_own.getD 152 0 = 12 := by decide +kernel
theorem rZ_152 : lm_rZ 152 .boolean := by decide +kernel
theorem ml_153 : lm_ml.getD 153 0 = 2 := by decide +kernel
theorem ow_153 : lm_own.getD 153 0 = 12 := by decide +kernel
theorem rI_153 : lm_rI 153 := ⟨.int, by decide +kernel, rfl⟩
theorem ml_154 : lm_ml.getD 154 0 = 2 := by decide +kernel
theorem ow_154 : lm_own.getD 154 0 = 12 := by decide +kernel
theorem rI_154 : lm_rI 154 := ⟨.int, by decide +kernel, rfl⟩
theorem ml_155 : lm_ml.getD 155 0 = 2 := by decide +kernel
theorem ow_155 : lm_own.getD 155 0 = 12 := by decide +kernel
theorem rI_155 : lm_rI 155 := ⟨.int, by decide +kernel, rfl⟩
theorem ml_156 : lm_ml.getD 156 0 = 2 := by decide +kernel
theorem ow_156 : lm_own.getD 156 0 = 12 := by decide +kernel
theorem rZ_156 : lm_rZ 156 .boolean := by decide +kernel
theorem ml_157 : lm_ml.getD 157 0 = 1 := by decide +kernel
theorem ow_157 : lm_own.getD 157 0 = 12 := by decide +kernel
theorem rV_157 : lm_rs.getD 157 none = none := by decide +kernel
theorem ml_158 : lm_ml.getD 158 0 = 3 := by decide +kernel
theorem ow_158 : lm_own.getD 158 0 = 12 := by decide +kernel
theorem rI_158 : lm_rI 158 := ⟨.int, by decide +kernel, rfl⟩
theorem ml_159 : lm_ml.getD 159 0 = 3 := by decide +kernel
theorem ow_159 : lm_own.getD 159 0 = 12 := by decide +kernel
theorem rI_159 : lm_rI 159 := ⟨.int, by decide +kernel, rfl⟩
theorem ml_160 : lm_ml.getD 160 0 = 1 := by decide +kernel
theorem ow_160 : lm_own.getD 160 0 = 12 := by decide +kernel
theorem rI_160 : lm_rI 160 := ⟨.int, by decide +kernel, rfl⟩
theorem ml_161 : lm_ml.getD 161 0 = 1 := by decide +kernel
theorem ow_161 : lm_own.getD 161 0 = 12 := by decide +kernel
theorem rI_161 : lm_rI 161 := ⟨.int, by decide +kernel, rfl⟩
theorem ml_162 : lm_ml.getD 162 0 = 2 := by decide +kernel
theorem ow_162 : lm_own.getD 162 0 = 12 := by decide +kernel
theorem rZ_162 : lm_rZ 162 .boolean := by decide +kernel
theorem ml_163 : lm_ml.getD 163 0 = 2 := by decide +kernel
theorem ow_163 : lm_own.getD 163 0 = 12 := by decide +kernel
theorem rZ_163 : lm_rZ 163 .boolean := by decide +kernel
theorem ml_164 : lm_ml.getD 164 0 = 3 := by decide +kernel
theorem ow_164 : lm_own.getD 164 0 = 12 := by decide +kernel
theorem rI_164 : lm_rI 164 := ⟨.int, by decide +kernel, rfl⟩
theorem ml_165 : lm_ml.getD 165 0 = 2 := by decide +kernel
theorem ow_165 : lm_own.getD 165 0 = 12 := by decide +kernel
theorem rI_165 : lm_rI 165 := ⟨.int, by decide +kernel, rfl⟩
theorem ml_166 : lm_ml.getD 166 0 = 5 := by decide +kernel
theorem ow_166 : lm_own.getD 166 0 = 12 := by decide +kernel
theorem rI_166 : lm_rI 166 := ⟨.int, by decide +kernel, rfl⟩
theorem ml_167 : lm_ml.getD 167 0 = 4 := by decide +kernel
theorem ow_167 : lm_own.getD 167 0 = 12 := by decide +kernel
theorem rI_167 : lm_rI 167 := ⟨.int, by decide +kernel, rfl⟩
theorem ml_168 : lm_ml.getD 168 0 = 4 := by decide +kernel
theorem ow_168 : lm_own.getD 168 0 = 12 := by decide +kernel
theorem rI_168 : lm_rI 168 := ⟨.int, by decide +kernel, rfl⟩
theorem ml_169 : lm_ml.getD 169 0 = 4 := by decide +kernel
theorem ow_169 : lm_own.getD 169 0 = 12 := by decide +kernel
theorem rI_169 : lm_rI 169 := ⟨.int, by decide +kernel, rfl⟩
theorem ml_170 : lm_ml.getD 170 0 = 6 := by decide +kernel
theorem ow_170 : lm_own.getD 170 0 = 12 := by decide +kernel
theorem rI_170 : lm_rI 170 := ⟨.int, by decide +kernel, rfl⟩
theorem ml_171 : lm_ml.getD 171 0 = 5 := by decide +kernel
theorem ow_171 : lm_own.getD 171 0 = 12 := by decide +kernel
theorem rI_171 : lm_rI 171 := ⟨.int, by decide +kernel, rfl⟩
theorem ml_172 : lm_ml.getD 172 0 = 1 := by decide +kernel
theorem ow_172 : lm_own.getD 172 0 = 12 := by decide +kernel
theorem rI_172 : lm_rI 172 := ⟨.int, by decide +kernel, rfl⟩
theorem ml_173 : lm_ml.getD 173 0 = 7 := by decide +kernel
theorem ow_173 : lm_own.getD 173 0 = 12 := by decide +kernel
theorem rI_173 : lm_rI 173 := ⟨.int, by decide +kernel, rfl⟩
theorem ml_174 : lm_ml.getD 174 0 = 2 := by decide +kernel
theorem ow_174 : lm_own.getD 174 0 = 12 := by decide +kernel
theorem rI_174 : lm_rI 174 := ⟨.int, by decide +kernel, rfl⟩
theorem ml_175 : lm_ml.getD 175 0 = 1 := by decide +kernel
theorem ow_175 : lm_own.getD 175 0 = 12 := by decide +kernel
theorem rZ_175 : lm_rZ 175 .boolean := by decide +kernel
theorem ml_176 : lm_ml.getD 176 0 = 1 := by decide +kernel
theorem ow_176 : lm_own.getD 176 0 = 12 := by decide +kernel
theorem rZ_176 : lm_rZ 176 .boolean := by decide +kernel
theorem ml_177 : lm_ml.getD 177 0 = 8 := by decide +kernel
theorem ow_177 : lm_own.getD 177 0 = 12 := by decide +kernel
theorem rI_177 : lm_rI 177 := ⟨.int, by decide +kernel, rfl⟩
theorem ml_178 : lm_ml.getD 178 0 = 6 := by decide +kernel
theorem ow_178 : lm_own.getD 178 0 = 12 := by decide +kernel
theorem rV_178 : lm_rs.getD 178 none = none := by decide +kernel
theorem ml_179 : lm_ml.getD 179 0 = 1 := by decide +kernel
theorem ow_179 : lm_own.getD 179 0 = 12 := by decide +kernel
theorem rZ_179 : lm_rZ 179 .boolean := by decide +kernel
theorem ml_180 : lm_ml.getD 180 0 = 1 := by decide +kernel
theorem ow_180 : lm_own.getD 180 0 = 12 := by decide +kernel
theorem rV_180 : lm_rs.getD 180 none = none := by decide +kernel
theorem ml_181 : lm_ml.getD 181 0 = 3 := by decide +kernel
theorem ow_181 : lm_own.getD 181 0 = 12 := by decide +kernel
theorem rZ_181 : lm_rZ 181 .boolean := by decide +kernel
theorem ml_182 : lm_ml.getD 182 0 = 2 := by decide +kernel
theorem ow_182 : lm_own.getD 182 0 = 12 := by decide +kernel
theorem rV_182 : lm_rs.getD 182 none = none := by decide +kernel
theorem ml_183 : lm_ml.getD 183 0 = 1 := by decide +kernel
theorem ow_183 : lm_own.getD 183 0 = 12 := by decide +kernel
theorem rV_183 : lm_rs.getD 183 none = none := by decide +kernel
theorem ml_184 : lm_ml.getD 184 0 = 1 := by decide +kernel
theorem ow_184 : lm_own.getD 184 0 = 12 := by decide +kernel
theorem rI_184 : lm_rI 184 := ⟨.int, by decide +kernel, rfl⟩
theorem ml_185 : lm_ml.getD 185 0 = 1 := by decide +kernel
theorem ow_185 : lm_own.getD 185 0 = 12 := by decide +kernel
theorem rV_185 : lm_rs.getD 185 none = none := by decide +kernel
theorem ml_186 : lm_ml.getD 186 0 = 2 := by decide +kernel
theorem ow_186 : lm_own.getD 186 0 = 12 := by decide +kernel
theorem rV_186 : lm_rs.getD 186 none = none := by decide +kernel
theorem ml_187 : lm_ml.getD 187 0 = 2 := by decide +kernel
theorem ow_187 : lm_own.getD 187 0 = 12 := by decide +kernel
theorem rV_187 : lm_rs.getD 187 none = none := by decide +kernel
theorem ml_188 : lm_ml.getD 188 0 = 4 := by decide +kernel
theorem ow_188 : lm_own.getD 188 0 = 12 := by decide +kernel
theorem rV_188 : lm_rs.getD 188 none = none := by decide +kernel
theorem ml_189 : lm_ml.getD 189 0 = 2 := by decide +kernel
theorem ow_189 : lm_own.getD 189 0 = 12 := by decide +kernel
theorem rV_189 : lm_rs.getD 189 none = none := by decide +kernel
theorem ml_190 : lm_ml.getD 190 0 = 2 := by decide +kernel
theorem ow_190 : lm_own.getD 190 0 = 12 := by decide +kernel
theorem rV_190 : lm_rs.getD 190 none = none := by decide +kernel
theorem ml_191 : lm_ml.getD 191 0 = 3 := by decide +kernel
theorem ow_191 : lm_own.getD 191 0 = 12 := by decide +kernel
theorem rV_191 : lm_rs.getD 191 none = none := by decide +kernel
theorem ml_192 : lm_ml.getD 192 0 = 2 := by decide +kernel
theorem ow_192 : lm_own.getD 192 0 = 12 := by decide +kernel
theorem rZ_192 : lm_rZ 192 .boolean := by decide +kernel
theorem ml_193 : lm_ml.getD 193 0 = 3 := by decide +kernel
theorem ow_193 : lm_own.getD 193 0 = 12 := by decide +kernel
theorem rI_193 : lm_rI 193 := ⟨.int, by decide +kernel, rfl⟩
theorem ml_194 : lm_ml.getD 194 0 = 1 := by decide +kernel
theorem ow_194 : lm_own.getD 194 0 = 12 := by decide +kernel
theorem rI_194 : lm_rI 194 := ⟨.int, by decide +kernel, rfl⟩
theorem ml_195 : lm_ml.getD 195 0 = 3 := by decide +kernel
theorem ow_195 : lm_own.getD 195 0 = 12 := by decide +kernel
theorem rI_195 : lm_rI 195 := ⟨.int, by decide +kernel, rfl⟩
theorem ml_196 : lm_ml.getD 196 0 = 2 := by decide +kernel
theorem ow_196 : lm_own.getD 196 0 = 12 := by decide +kernel
theorem rI_196 : lm_rI 196 := ⟨.int, by decide +kernel, rfl⟩
theorem ml_197 : lm_ml.getD 197 0 = 3 := by decide +kernel
theorem ow_197 : lm_own.getD 197 0 = 12 := by decide +kernel
theorem rZ_197 : lm_rZ 197 .boolean := by decide +kernel
theorem ml_198 : lm_ml.getD 198 0 = 4 := by decide +kernel
theorem ow_198 : lm_own.getD 198 0 = 12 := by decide +kernel
theorem rZ_198 : lm_rZ 198 .long := by decide +kernel
theorem ml_199 : lm_ml.getD 199 0 = 7 := by decide +kernel
theorem ow_199 : lm_own.getD 199 0 = 12 := by decide +kernel
theorem rZ_199 : lm_rZ 199 .long := by decide +kernel
theorem ml_200 : lm_ml.getD 200 0 = 7 := by decide +kernel
theorem ow_200 : lm_own.getD 200 0 = 12 := by decide +kernel
theorem rZ_200 : lm_rZ 200 .long := by decide +kernel
theorem ml_201 : lm_ml.getD 201 0 = 4 := by decide +kernel
theorem ow_201 : lm_own.getD 201 0 = 12 := by decide +kernel
theorem rZ_201 : lm_rZ 201 .long := by decide +kernel
theorem ml_202 : lm_ml.getD 202 0 = 4 := by decide +kernel
theorem ow_202 : lm_own.getD 202 0 = 12 := by decide +kernel
theorem rZ_202 : lm_rZ 202 .boolean := by decide +kernel
theorem ml_203 : lm_ml.getD 203 0 = 4 := by decide +kernel
theorem ow_203 : lm_own.getD 203 0 = 12 := by decide +kernel
theorem rZ_203 : lm_rZ 203 .boolean := by decide +kernel
theorem ml_204 : lm_ml.getD 204 0 = 3 := by decide +kernel
theorem ow_204 : lm_own.getD 204 0 = 12 := by decide +kernel
theorem rZ_204 : lm_rZ 204 .boolean := by decide +kernel
theorem ml_205 : lm_ml.getD 205 0 = 7 := by decide +kernel
theorem ow_205 : lm_own.getD 205 0 = 12 := by decide +kernel
theorem rZ_205 : lm_rZ 205 .boolean := by decide +kernel
theorem ml_206 : lm_ml.getD 206 0 = 10 := by decide +kernel
theorem ow_206 : lm_own.getD 206 0 = 12 := by decide +kernel
theorem rV_206 : lm_rs.getD 206 none = none := by decide +kernel
theorem ml_207 : lm_ml.getD 207 0 = 4 := by decide +kernel
theorem ow_207 : lm_own.getD 207 0 = 12 := by decide +kernel
theorem rV_207 : lm_rs.getD 207 none = none := by decide +kernel
theorem ml_208 : lm_ml.getD 208 0 = 2 := by decide +kernel
theorem ow_208 : lm_own.getD 208 0 = 12 := by decide +kernel
theorem rV_208 : lm_rs.getD 208 none = none := by decide +kernel
theorem ml_209 : lm_ml.getD 209 0 = 5 := by decide +kernel
theorem ow_209 : lm_own.getD 209 0 = 12 := by decide +kernel
theorem rI_209 : lm_rI 209 := ⟨.int, by decide +kernel, rfl⟩
theorem ml_210 : lm_ml.getD 210 0 = 3 := by decide +kernel
theorem ow_210 : lm_own.getD 210 0 = 12 := by decide +kernel
theorem rZ_210 : lm_rZ 210 .boolean := by decide +kernel
theorem ml_211 : lm_ml.getD 211 0 = 3 := by decide +kernel
theorem ow_211 : lm_own.getD 211 0 = 12 := by decide +kernel
theorem rI_211 : lm_rI 211 := ⟨.int, by decide +kernel, rfl⟩
theorem ml_212 : lm_ml.getD 212 0 = 2 := by decide +kernel
theorem ow_212 : lm_own.getD 212 0 = 12 := by decide +kernel
theorem rV_212 : lm_rs.getD 212 none = none := by decide +kernel
theorem ml_213 : lm_ml.getD 213 0 = 4 := by decide +kernel
theorem ow_213 : lm_own.getD 213 0 = 12 := by decide +kernel
theorem rI_213 : lm_rI 213 := ⟨.int, by decide +kernel, rfl⟩
theorem ml_214 : lm_ml.getD 214 0 = 7 := by decide +kernel
theorem ow_214 : lm_own.getD 214 0 = 12 := by decide +kernel
theorem rI_214 : lm_rI 214 := ⟨.int, by decide +kernel, rfl⟩
theorem ml_215 : lm_ml.getD 215 0 = 3 := by decide +kernel
theorem ow_215 : lm_own.getD 215 0 = 12 := by decide +kernel
theorem rI_215 : lm_rI 215 := ⟨.int, by decide +kernel, rfl⟩
theorem ml_216 : lm_ml.getD 216 0 = 2 := by decide +kernel
theorem ow_216 : lm_own.getD 216 0 = 12 := by decide +kernel
theorem rI_216 : lm_rI 216 := ⟨.int, by decide +kernel, rfl⟩
theorem ml_217 : lm_ml.getD 217 0 = 4 := by decide +kernel
theorem ow_217 : lm_own.getD 217 0 = 12 := by decide +kernel
theorem rI_217 : lm_rI 217 := ⟨.int, by decide +kernel, rfl⟩
theorem ml_218 : lm_ml.getD 218 0 = 2 := by decide +kernel
theorem ow_218 : lm_own.getD 218 0 = 12 := by decide +kernel
theorem rI_218 : lm_rI 218 := ⟨.int, by decide +kernel, rfl⟩
theorem ml_219 : lm_ml.getD 219 0 = 3 := by decide +kernel
theorem ow_219 : lm_own.getD 219 0 = 12 := by decide +kernel
theorem rI_219 : lm_rI 219 := ⟨.int, by decide +kernel, rfl⟩
theorem ml_220 : lm_ml.getD 220 0 = 5 := by decide +kernel
theorem ow_220 : lm_own.getD 220 0 = 12 := by decide +kernel
theorem rZ_220 : lm_rZ 220 .boolean := by decide +kernel
theorem ml_221 : lm_ml.getD 221 0 = 3 := by decide +kernel
theorem ow_221 : lm_own.getD 221 0 = 12 := by decide +kernel
theorem rI_221 : lm_rI 221 := ⟨.int, by decide +kernel, rfl⟩
theorem ml_222 : lm_ml.getD 222 0 = 6 := by decide +kernel
theorem ow_222 : lm_own.getD 222 0 = 12 := by decide +kernel
theorem rZ_222 : lm_rZ 222 .boolean := by decide +kernel
theorem ml_223 : lm_ml.getD 223 0 = 5 := by decide +kernel
theorem ow_223 : lm_own.getD 223 0 = 12 := by decide +kernel
theorem rV_223 : lm_rs.getD 223 none = none := by decide +kernel
theorem ml_224 : lm_ml.getD 224 0 = 3 := by decide +kernel
theorem ow_224 : lm_own.getD 224 0 = 12 := by decide +kernel
theorem rI_224 : lm_rI 224 := ⟨.int, by decide +kernel, rfl⟩
theorem ml_225 : lm_ml.getD 225 0 = 2 := by decide +kernel
theorem ow_225 : lm_own.getD 225 0 = 12 := by decide +kernel
theorem rI_225 : lm_rI 225 := ⟨.int, by decide +kernel, rfl⟩
theorem ml_226 : lm_ml.getD 226 0 = 2 := by decide +kernel
theorem ow_226 : lm_own.getD 226 0 = 12 := by decide +kernel
theorem rI_226 : lm_rI 226 := ⟨.int, by decide +kernel, rfl⟩
theorem ml_227 : lm_ml.getD 227 0 = 2 := by decide +kernel
theorem ow_227 : lm_own.getD 227 0 = 12 := by decide +kernel
theorem rI_227 : lm_rI 227 := ⟨.int, by decide +kernel, rfl⟩
theorem ml_228 : lm_ml.getD 228 0 = 1 := by decide +kernel
theorem ow_228 : lm_own.getD 228 0 = 12 := by decide +kernel
theorem rI_228 : lm_rI 228 := ⟨.int, by decide +kernel, rfl⟩
theorem ml_229 : lm_ml.getD 229 0 = 3 := by decide +kernel
theorem ow_229 : lm_own.getD 229 0 = 12 := by decide +kernel
theorem rI_229 : lm_rI 229 := ⟨.int, by decide +kernel, rfl⟩
theorem ml_230 : lm_ml.getD 230 0 = 2 := by decide +kernel
theorem ow_230 : lm_own.getD 230 0 = 12 := by decide +kernel
theorem rI_230 : lm_rI 230 := ⟨.int, by decide +kernel, rfl⟩
theorem ml_231 : lm_ml.getD 231 0 = 7 := by decide +kernel
theorem ow_231 : lm_own.getD 231 0 = 12 := by decide +kernel
theorem rI_231 : lm_rI 231 := ⟨.int, by decide +kernel, rfl⟩
theorem ml_232 : lm_ml.getD 232 0 = 2 := by decide +kernel
theorem ow_232 : lm_own.getD 232 0 = 12 := by decide +kernel
theorem rI_232 : lm_rI 232 := ⟨.int, by decide +kernel, rfl⟩
theorem ml_233 : lm_ml.getD 233 0 = 3 := by decide +kernel
theorem ow_233 : lm_own.getD 233 0 = 12 := by decide +kernel
theorem rI_233 : lm_rI 233 := ⟨.int, by decide +kernel, rfl⟩
theorem ml_234 : lm_ml.getD 234 0 = 4 := by decide +kernel
theorem ow_234 : lm_own.getD 234 0 = 12 := by decide +kernel
theorem rV_234 : lm_rs.getD 234 none = none := by decide +kernel
theorem ml_235 : lm_ml.getD 235 0 = 2 := by decide +kernel
theorem ow_235 : lm_own.getD 235 0 = 12 := by decide +kernel
theorem rI_235 : lm_rI 235 := ⟨.int, by decide +kernel, rfl⟩
theorem ml_236 : lm_ml.getD 236 0 = 2 := by decide +kernel
theorem ow_236 : lm_own.getD 236 0 = 12 := by decide +kernel
theorem rI_236 : lm_rI 236 := ⟨.int, by decide +kernel, rfl⟩
theorem ml_237 : lm_ml.getD 237 0 = 7 := by decide +kernel
theorem ow_237 : lm_own.getD 237 0 = 12 := by decide +kernel
theorem rZ_237 : lm_rZ 237 .boolean := by decide +kernel
theorem ml_238 : lm_ml.getD 238 0 = 2 := by decide +kernel
theorem ow_238 : lm_own.getD 238 0 = 12 := by decide +kernel
theorem rI_238 : lm_rI 238 := ⟨.int, by decide +kernel, rfl⟩
theorem ml_239 : lm_ml.getD 239 0 = 2 := by decide +kernel
theorem ow_239 : lm_own.getD 239 0 = 12 := by decide +kernel
theorem rI_239 : lm_rI 239 := ⟨.int, by decide +kernel, rfl⟩
theorem ml_240 : lm_ml.getD 240 0 = 4 := by decide +kernel
theorem ow_240 : lm_own.getD 240 0 = 12 := by decide +kernel
theorem rZ_240 : lm_rZ 240 .long := by decide +kernel
theorem ml_241 : lm_ml.getD 241 0 = 9 := by decide +kernel
theorem ow_241 : lm_own.getD 241 0 = 12 := by decide +kernel
theorem rZ_241 : lm_rZ 241 .long := by decide +kernel
theorem ml_242 : lm_ml.getD 242 0 = 7 := by decide +kernel
theorem ow_242 : lm_own.getD 242 0 = 12 := by decide +kernel
theorem rZ_242 : lm_rZ 242 .long := by decide +kernel
theorem ml_243 : lm_ml.getD 243 0 = 3 := by decide +kernel
theorem ow_243 : lm_own.getD 243 0 = 12 := by decide +kernel
theorem rV_243 : lm_rs.getD 243 none = none := by decide +kernel
theorem ml_244 : lm_ml.getD 244 0 = 4 := by decide +kernel
theorem ow_244 : lm_own.getD 244 0 = 12 := by decide +kernel
theorem rZ_244 : lm_rZ 244 .long := by decide +kernel
theorem ml_245 : lm_ml.getD 245 0 = 2 := by decide +kernel
theorem ow_245 : lm_own.getD 245 0 = 12 := by decide +kernel
theorem rZ_245 : lm_rZ 245 .long := by decide +kernel
theorem ml_246 : lm_ml.getD 246 0 = 3 := by decide +kernel
theorem ow_246 : lm_own.getD 246 0 = 12 := by decide +kernel
theorem rI_246 : lm_rI 246 := ⟨.int, by decide +kernel, rfl⟩
theorem ml_247 : lm_ml.getD 247 0 = 5 := by decide +kernel
theorem ow_247 : lm_own.getD 247 0 = 12 := by decide +kernel
theorem rV_247 : lm_rs.getD 247 none = none := by decide +kernel
theorem ml_248 : lm_ml.getD 248 0 = 3 := by decide +kernel
theorem ow_248 : lm_own.getD 248 0 = 12 := by decide +kernel
theorem rZ_248 : lm_rZ 248 .boolean := by decide +kernel
theorem ml_249 : lm_ml.getD 249 0 = 1 := by decide +kernel
theorem ow_249 : lm_own.getD 249 0 = 12 := by decide +kernel
theorem rV_249 : lm_rs.getD 249 none = none := by decide +kernel
theorem ml_250 : lm_ml.getD 250 0 = 2 := by decide +kernel
theorem ow_250 : lm_own.getD 250 0 = 12 := by decide +kernel
theorem rZ_250 : lm_rZ 250 .long := by decide +kernel
theorem ml_251 : lm_ml.getD 251 0 = 2 := by decide +kernel
theorem ow_251 : lm_own.getD 251 0 = 12 := by decide +kernel
theorem rI_251 : lm_rI 251 := ⟨.int, by decide +kernel, rfl⟩
theorem ml_252 : lm_ml.getD 252 0 = 2 := by decide +kernel
theorem ow_252 : lm_own.getD 252 0 = 12 := by decide +kernel
theorem rI_252 : lm_rI 252 := ⟨.int, by decide +kernel, rfl⟩
theorem ml_253 : lm_ml.getD 253 0 = 10 := by decide +kernel
theorem ow_253 : lm_own.getD 253 0 = 12 := by decide +kernel
theorem rI_253 : lm_rI 253 := ⟨.int, by decide +kernel, rfl⟩
theorem ml_254 : lm_ml.getD 254 0 = 7 := by decide +kernel
theorem ow_254 : lm_own.getD 254 0 = 12 := by decide +kernel
theorem rZ_254 : lm_rZ 254 .boolean := by decide +kernel
theorem ml_255 : lm_ml.getD 255 0 = 5 := by decide +kernel
theorem ow_255 : lm_own.getD 255 0 = 12 := by decide +kernel
theorem rZ_255 : lm_rZ 255 .boolean := by decide +kernel
theorem ml_256 : lm_ml.getD 256 0 = 5 := by decide +kernel
theorem ow_256 : lm_own.getD 256 0 = 12 := by decide +kernel
theorem rI_256 : lm_rI 256 := ⟨.int, by decide +kernel, rfl⟩
theorem ml_257 : lm_ml.getD 257 0 = 4 := by decide +kernel
theorem ow_257 : lm_own.getD 257 0 = 12 := by decide +kernel
theorem rI_257 : lm_rI 257 := ⟨.int, by decide +kernel, rfl⟩
theorem ml_258 : lm_ml.getD 258 0 = 4 := by decide +kernel
theorem ow_258 : lm_own.getD 258 0 = 12 := by decide +kernel
theorem rI_258 : lm_rI 258 := ⟨.int, by decide +kernel, rfl⟩
theorem ml_259 : lm_ml.getD 259 0 = 4 := by decide +kernel
theorem ow_259 : lm_own.getD 259 0 = 12 := by decide +kernel
theorem rI_259 : lm_rI 259 := ⟨.int, by decide +kernel, rfl⟩
theorem ml_260 : lm_ml.getD 260 0 = 2 := by decide +kernel
theorem ow_260 : lm_own.getD 260 0 = 12 := by decide +kernel
theorem rI_260 : lm_rI 260 := ⟨.int, by decide +kernel, rfl⟩
theorem ml_261 : lm_ml.getD 261 0 = 1 := by decide +kernel
theorem ow_261 : lm_own.getD 261 0 = 12 := by decide +kernel
theorem rI_261 : lm_rI 261 := ⟨.int, by decide +kernel, rfl⟩
theorem ml_262 : lm_ml.getD 262 0 = 1 := by decide +kernel
theorem ow_262 : lm_own.getD 262 0 = 14 := by decide +kernel
theorem rI_262 : lm_rI 262 := ⟨.int, by decide +kernel, rfl⟩
theorem ml_263 : lm_ml.getD 263 0 = 1 := by decide +kernel
theorem ow_263 : lm_own.getD 263 0 = 16 := by decide +kernel
theorem rI_263 : lm_rI 263 := ⟨.int, by decide +kernel, rfl⟩
theorem ml_264 : lm_ml.getD 264 0 = 2 := by decide +kernel
theorem ow_264 : lm_own.getD 264 0 = 16 := by decide +kernel
theorem rZ_264 : lm_rZ 264 .char := by decide +kernel
theorem ml_265 : lm_ml.getD 265 0 = 1 := by decide +kernel
theorem ow_265 : lm_own.getD 265 0 = 16 := by decide +kernel
theorem rZ_265 : lm_rZ 265 .byte := by decide +kernel
theorem ml_266 : lm_ml.getD 266 0 = 1 := by decide +kernel
theorem ow_266 : lm_own.getD 266 0 = 16 := by decide +kernel
theorem rZ_266 : lm_rZ 266 .boolean := by decide +kernel
theorem ml_267 : lm_ml.getD 267 0 = 2 := by decide +kernel
theorem ow_267 : lm_own.getD 267 0 = 16 := by decide +kernel
theorem rV_267 : lm_rs.getD 267 none = none := by decide +kernel
theorem ml_268 : lm_ml.getD 268 0 = 2 := by decide +kernel
theorem ow_268 : lm_own.getD 268 0 = 17 := by decide +kernel
theorem rZ_268 : lm_rZ 268 .char := by decide +kernel
theorem ml_269 : lm_ml.getD 269 0 = 5 := by decide +kernel
theorem ow_269 : lm_own.getD 269 0 = 19 := by decide +kernel
theorem rV_269 : lm_rs.getD 269 none = none := by decide +kernel
theorem ml_270 : lm_ml.getD 270 0 = 4 := by decide +kernel
theorem ow_270 : lm_own.getD 270 0 = 19 := by decide +kernel
theorem rV_270 : lm_rs.getD 270 none = none := by decide +kernel
theorem ml_271 : lm_ml.getD 271 0 = 3 := by decide +kernel
theorem ow_271 : lm_own.getD 271 0 = 19 := by decide +kernel
theorem rZ_271 : lm_rZ 271 (.array .int) := by decide +kernel
theorem ml_272 : lm_ml.getD 272 0 = 3 := by decide +kernel
theorem ow_272 : lm_own.getD 272 0 = 20 := by decide +kernel
theorem rI_272 : lm_rI 272 := ⟨.int, by decide +kernel, rfl⟩
theorem ml_273 : lm_ml.getD 273 0 = 2 := by decide +kernel
theorem ow_273 : lm_own.getD 273 0 = 5 := by decide +kernel
theorem rV_273 : lm_rs.getD 273 none = none := by decide +kernel
theorem ml_274 : lm_ml.getD 274 0 = 3 := by decide +kernel
theorem ow_274 : lm_own.getD 274 0 = 5 := by decide +kernel
theorem rV_274 : lm_rs.getD 274 none = none := by decide +kernel
theorem ml_275 : lm_ml.getD 275 0 = 5 := by decide +kernel
theorem ow_275 : lm_own.getD 275 0 = 5 := by decide +kernel
theorem rI_275 : lm_rI 275 := ⟨.int, by decide +kernel, rfl⟩
theorem ml_276 : lm_ml.getD 276 0 = 5 := by decide +kernel
theorem ow_276 : lm_own.getD 276 0 = 5 := by decide +kernel
theorem rI_276 : lm_rI 276 := ⟨.int, by decide +kernel, rfl⟩
theorem ml_277 : lm_ml.getD 277 0 = 2 := by decide +kernel
theorem ow_277 : lm_own.getD 277 0 = 21 := by decide +kernel
theorem rI_277 : lm_rI 277 := ⟨.int, by decide +kernel, rfl⟩
theorem ml_278 : lm_ml.getD 278 0 = 4 := by decide +kernel
theorem ow_278 : lm_own.getD 278 0 = 13 := by decide +kernel
theorem rZ_278 : lm_rZ 278 .boolean := by decide +kernel

def am_K0 : List (Nat × Nat) := [(9, 9), (5, 2), (52, 8), (4, 15), (50, 6), (50, 6), (50, 6), (4, 15), (50, 6), (50, 6), (50, 6), (4, 15), (50, 6), (50, 6), (50, 6), (4, 15), (50, 6), (50, 6), (50, 6), (4, 15), (50, 6), (50, 6), (50, 6), (4, 15), (50, 6), (50, 6), (50, 6), (4, 15), (50, 6), (50, 6), (50, 6), (4, 15), (50, 6), (50, 6), (50, 6), (0, 11), (53, 40), (50, 8), (50, 8), (50, 8), (50, 40), (50, 40), (50, 40), (7, 5), (7, 5), (7, 5), (7, 5), (7, 5), (7, 5), (7, 5), (7, 5), (7, 5), (7, 5), (7, 5), (7, 5), (7, 5), (7, 5), (7, 5), (7, 5), (7, 5), (7, 5), (7, 5), (7, 5), (7, 5), (7, 5), (7, 5), (7, 5), (7, 5), (7, 5), (7, 5), (7, 5), (7, 5), (7, 5), (7, 5), (7, 5), (7, 5), (7, 5), (7, 5), (7, 5), (7, 5), (7, 5), (7, 5), (7, 5), (3, 6), (50, 576), (50, 6), (50, 6), (2, 9), (6, 8), (50, 8), (50, 8), (1, 5), (50, 12), (50, 12), (50, 12), (50, 12), (54, 4), (8, 4), (50, 40), (8, 4), (50, 40), (8, 4), (50, 40), (8, 4), (50, 40), (10, 58), (50, 8), (50, 8), (50, 8), (50, 8), (50, 8), (50, 8), (50, 8), (51, 8), (50, 8), (50, 48), (50, 48), (50, 8), (50, 48), (51, 8), (50, 8), (50, 4), (50, 4), (50, 160), (50, 12), (50, 12), (50, 12), (50, 12), (50, 40), (50, 40), (50, 40), (50, 40), (51, 40), (50, 8), (50, 8), (50, 8), (50, 13824), (50, 9), (50, 529), (50, 241), (50, 8)]
def am_P0 : List (List (Option Nat)) := [[some 1, some 35, some 83, some 87, some 88, some 91, some 96, none, none], [some 2, none], [some 3, some 7, some 11, some 15, some 19, some 23, some 27, some 31], [none, none, none, none, none, none, none, none, none, none, none, none, some 4, some 5, some 6], [], [], [], [none, none, none, none, none, none, none, none, none, none, none, none, some 8, some 9, some 10], [], [], [], [none, none, none, none, none, none, none, none, none, none, none, none, some 12, some 13, some 14], [], [], [], [none, none, none, none, none, none, none, none, none, none, none, none, some 16, some 17, some 18], [], [], [], [none, none, none, none, none, none, none, none, none, none, none, none, some 20, some 21, some 22], [], [], [], [none, none, none, none, none, none, none, none, none, none, none, none, some 24, some 25, some 26], [], [], [], [none, none, none, none, none, none, none, none, none, none, none, none, some 28, some 29, some 30], [], [], [], [none, none, none, none, none, none, none, none, none, none, none, none, some 32, some 33, some 34], [], [], [], [some 1, some 36, none, some 37, some 38, some 39, some 40, some 41, some 42, none, none], [some 43, some 44, some 45, some 46, some 47, some 48, some 49, some 50, some 51, some 52, some 53, some 54, some 55, some 56, some 57, some 58, some 59, some 60, some 61, some 62, some 63, some 64, some 65, some 66, some 67, some 68, some 69, some 70, some 71, some 72, some 73, some 74, some 75, some 76, some 77, some 78, some 79, some 80, some 81, some 82], [], [], [], [], [], [], [none, none, none, none, none], [none, none, none, none, none], [none, none, none, none, none], [none, none, none, none, none], [none, none, none, none, none], [none, none, none, none, none], [none, none, none, none, none], [none, none, none, none, none], [none, none, none, none, none], [none, none, none, none, none], [none, none, none, none, none], [none, none, none, none, none], [none, none, none, none, none], [none, none, none, none, none], [none, none, none, none, none], [none, none, none, none, none], [none, none, none, none, none], [none, none, none, none, none], [none, none, none, none, none], [none, none, none, none, none], [none, none, none, none, none], [none, none, none, none, none], [none, none, none, none, none], [none, none, none, none, none], [none, none, none, none, none], [none, none, none, none, none], [none, none, none, none, none], [none, none, none, none, none], [none, none, none, none, none], [none, none, none, none, none], [none, none, none, none, none], [none, none, none, none, none], [none, none, none, none, none], [none, none, none, none, none], [none, none, none, none, none], [none, none, none, none, none], [none, none, none, none, none], [none, none, none, none, none], [none, none, none, none, none], [none, none, none, none, none], [some 35, some 84, some 85, some 86, none, none], [], [], [], [some 35, none, none, none, none, none, none, none, none], [some 83, none, none, none, none, none, some 89, some 90], [], [], [some 92, some 93, some 94, some 95, none], [], [], [], [], [some 97, some 99, some 101, some 103], [some 98, none, none, none], [], [some 100, none, none, none], [], [some 102, none, none, none], [], [some 104, none, none, none], [], [none, none, none, some 106, some 107, some 108, some 109, some 110, some 111, some 112, some 113, some 114, some 115, some 116, some 117, some 118, some 119, some 120, some 121, some 122, some 123, none, some 124, some 125, some 126, some 127, none, some 128, some 129, some 130, some 131, some 132, none, none, none, none, none, some 133, some 134, some 135, none, none, some 136, none, none, none, none, none, none, none, none, some 137, none, none, none, some 138, some 139, some 140], [], [], [], [], [], [], [], [], [], [], [], [], [], [], [], [], [], [], [], [], [], [], [], [], [], [], [], [], [], [], [], [], [], [], []]
abbrev am_N (I : Nat → Nat → Int32) (J : Nat → Nat → Int64) : am_M := (am_K0, I, J, am_P0, 16887)
theorem k0_0 : am_K0[0]? = some (9, 9) := by decide +kernel
theorem k0_1 : am_K0[1]? = some (5, 2) := by decide +kernel
theorem k0_2 : am_K0[2]? = some (52, 8) := by decide +kernel
theorem k0_3 : am_K0[3]? = some (4, 15) := by decide +kernel
theorem k0_4 : am_K0[4]? = some (50, 6) := by decide +kernel
theorem k0_5 : am_K0[5]? = some (50, 6) := by decide +kernel
theorem k0_6 : am_K0[6]? = some (50, 6) := by decide +kernel
theorem k0_7 : am_K0[7]? = some (4, 15) := by decide +kernel
theorem k0_8 : am_K0[8]? = some (50, 6) := by decide +kernel
theorem k0_9 : am_K0[9]? = some (50, 6) := by decide +kernel
theorem k0_10 : am_K0[10]? = some (50, 6) := by decide +kernel
theorem k0_11 : am_K0[11]? = some (4, 15) := by decide +kernel
theorem k0_12 : am_K0[12]? = some (50, 6) := by decide +kernel
theorem k0_13 : am_K0[13]? = some (50, 6) := by decide +kernel
theorem k0_14 : am_K0[14]? = some (50, 6) := by decide +kernel
theorem k0_15 : am_K0[15]? = some (4, 15) := by decide +kernel
theorem k0_16 : am_K0[16]? = some (50, 6) := by decide +kernel
theorem k0_17 : am_K0[17]? = some (50, 6) := by decide +kernel
theorem k0_18 : am_K0[18]? = some (50, 6) := by decide +kernel
theorem k0_19 : am_K0[19]? = some (4, 15) := by decide +kernel
theorem k0_20 : am_K0[20]? = some (50, 6) := by decide +kernel
theorem k0_21 : am_K0[21]? = some (50, 6) := by decide +kernel
theorem k0_22 : am_K0[22]? = some (50, 6) := by decide +kernel
theorem k0_23 : am_K0[23]? = some (4, 15) := by decide +kernel
theorem k0_24 : am_K0[24]? = some (50, 6) := by decide +kernel
theorem k0_25 : am_K0[25]? = some (50, 6) := by decide +kernel
theorem k0_26 : am_K0[26]? = some (50, 6) := by decide +kernel
theorem k0_27 : am_K0[27]? = some (4, 15) := by decide +kernel
theorem k0_28 : am_K0[28]? = some (50, 6) := by decide +kernel
theorem k0_29 : am_K0[29]? = some (50, 6) := by decide +kernel
theorem k0_30 : am_K0[30]? = some (50, 6) := by decide +kernel
theorem k0_31 : am_K0[31]? = some (4, 15) := by decide +kernel
theorem k0_32 : am_K0[32]? = some (50, 6) := by decide +kernel
theorem k0_33 : am_K0[33]? = some (50, 6) := by decide +kernel
theorem k0_34 : am_K0[34]? = some (50, 6) := by decide +kernel
theorem k0_35 : am_K0[35]? = some (0, 11) := by decide +kernel
theorem k0_36 : am_K0[36]? = some (53, 40) := by decide +kernel
theorem k0_37 : am_K0[37]? = some (50, 8) := by decide +kernel
theorem k0_38 : am_K0[38]? = some (50, 8) := by decide +kernel
theorem k0_39 : am_K0[39]? = some (50, 8) := by decide +kernel
theorem k0_40 : am_K0[40]? = some (50, 40) := by decide +kernel
theorem k0_41 : am_K0[41]? = some (50, 40) := by decide +kernel
theorem k0_42 : am_K0[42]? = some (50, 40) := by decide +kernel
theorem k0_43 : am_K0[43]? = some (7, 5) := by decide +kernel
theorem k0_44 : am_K0[44]? = some (7, 5) := by decide +kernel
theorem k0_45 : am_K0[45]? = some (7, 5) := by decide +kernel
theorem k0_46 : am_K0[46]? = some (7, 5) := by decide +kernel
theorem k0_47 : am_K0[47]? = some (7, 5) := by decide +kernel
theorem k0_48 : am_K0[48]? = some (7, 5) := by decide +kernel
theorem k0_49 : am_K0[49]? = some (7, 5) := by decide +kernel
theorem k0_50 : am_K0[50]? = some (7, 5) := by decide +kernel
theorem k0_51 : am_K0[51]? = some (7, 5) := by decide +kernel
theorem k0_52 : am_K0[52]? = some (7, 5) := by decide +kernel
theorem k0_53 : am_K0[53]? = some (7, 5) := by decide +kernel
theorem k0_54 : am_K0[54]? = some (7, 5) := by decide +kernel
theorem k0_55 : am_K0[55]? = some (7, 5) := by decide +kernel
theorem k0_56 : am_K0[56]? = some (7, 5) := by decide +kernel
theorem k0_57 : am_K0[57]? = some (7, 5) := by decide +kernel
theorem k0_58 : am_K0[58]? = some (7, 5) := by decide +kernel
theorem k0_59 : am_K0[59]? = some (7, 5) := by decide +kernel
theorem k0_60 : am_K0[60]? = some (7, 5) := by decide +kernel
theorem k0_61 : am_K0[61]? = some (7, 5) := by decide +kernel
theorem k0_62 : am_K0[62]? = some (7, 5) := by decide +kernel
theorem k0_63 : am_K0[63]? = some (7, 5) := by decide +kernel
theorem k0_64 : am_K0[64]? = some (7, 5) := by decide +kernel
theorem k0_65 : am_K0[65]? = some (7, 5) := by decide +kernel
theorem k0_66 : am_K0[66]? = some (7, 5) := by decide +kernel
theorem k0_67 : am_K0[67]? = some (7, 5) := by decide +kernel
theorem k0_68 : am_K0[68]? = some (7, 5) := by decide +kernel
theorem k0_69 : am_K0[69]? = some (7, 5) := by decide +kernel
theorem k0_70 : am_K0[70]? = some (7, 5) := by decide +kernel
theorem k0_71 : am_K0[71]? = some (7, 5) := by decide +kernel
theorem k0_72 : am_K0[72]? = some (7, 5) := by decide +kernel
theorem k0_73 : am_K0[73]? = some (7, 5) := by decide +kernel
theorem k0_74 : am_K0[74]? = some (7, 5) := by decide +kernel
theorem k0_75 : am_K0[75]? = some (7, 5) := by decide +kernel
theorem k0_76 : am_K0[76]? = some (7, 5) := by decide +kernel
theorem k0_77 : am_K0[77]? = some (7, 5) := by decide +kernel
theorem k0_78 : am_K0[78]? = some (7, 5) := by decide +kernel
theorem k0_79 : am_K0[79]? = some (7, 5) := by decide +kernel
theorem k0_80 : am_K0[80]? = some (7, 5) := by decide +kernel
theorem k0_81 : am_K0[81]? = some (7, 5) := by decide +kernel
theorem k0_82 : am_K0[82]? = some (7, 5) := by decide +kernel
theorem k0_83 : am_K0[83]? = some (3, 6) := by decide +kernel
theorem k0_84 : am_K0[84]? = some (50, 576) := by decide +kernel
theorem k0_85 : am_K0[85]? = some (50, 6) := by decide +kernel
theorem k0_86 : am_K0[86]? = some (50, 6) := by decide +kernel
theorem k0_87 : am_K0[87]? = some (2, 9) := by decide +kernel
theorem k0_88 : am_K0[88]? = some (6, 8) := by decide +kernel
theorem k0_89 : am_K0[89]? = some (50, 8) := by decide +kernel
theorem k0_90 : am_K0[90]? = some (50, 8) := by decide +kernel
theorem k0_91 : am_K0[91]? = some (1, 5) := by decide +kernel
theorem k0_92 : am_K0[92]? = some (50, 12) := by decide +kernel
theorem k0_93 : am_K0[93]? = some (50, 12) := by decide +kernel
theorem k0_94 : am_K0[94]? = some (50, 12) := by decide +kernel
theorem k0_95 : am_K0[95]? = some (50, 12) := by decide +kernel
theorem k0_96 : am_K0[96]? = some (54, 4) := by decide +kernel
theorem k0_97 : am_K0[97]? = some (8, 4) := by decide +kernel
theorem k0_98 : am_K0[98]? = some (50, 40) := by decide +kernel
theorem k0_99 : am_K0[99]? = some (8, 4) := by decide +kernel
theorem k0_100 : am_K0[100]? = some (50, 40) := by decide +kernel
theorem k0_101 : am_K0[101]? = some (8, 4) := by decide +kernel
theorem k0_102 : am_K0[102]? = some (50, 40) := by decide +kernel
theorem k0_103 : am_K0[103]? = some (8, 4) := by decide +kernel
theorem k0_104 : am_K0[104]? = some (50, 40) := by decide +kernel
theorem k0_105 : am_K0[105]? = some (10, 58) := by decide +kernel
theorem k0_106 : am_K0[106]? = some (50, 8) := by decide +kernel
theorem k0_107 : am_K0[107]? = some (50, 8) := by decide +kernel
theorem k0_108 : am_K0[108]? = some (50, 8) := by decide +kernel
theorem k0_109 : am_K0[109]? = some (50, 8) := by decide +kernel
theorem k0_110 : am_K0[110]? = some (50, 8) := by decide +kernel
theorem k0_111 : am_K0[111]? = some (50, 8) := by decide +kernel
theorem k0_112 : am_K0[112]? = some (50, 8) := by decide +kernel
theorem k0_113 : am_K0[113]? = some (51, 8) := by decide +kernel
theorem k0_114 : am_K0[114]? = some (50, 8) := by decide +kernel
theorem k0_115 : am_K0[115]? = some (50, 48) := by decide +kernel
theorem k0_116 : am_K0[116]? = some (50, 48) := by decide +kernel
theorem k0_117 : am_K0[117]? = some (50, 8) := by decide +kernel
theorem k0_118 : am_K0[118]? = some (50, 48) := by decide +kernel
theorem k0_119 : am_K0[119]? = some (51, 8) := by decide +kernel
theorem k0_120 : am_K0[120]? = some (50, 8) := by decide +kernel
theorem k0_121 : am_K0[121]? = some (50, 4) := by decide +kernel
theorem k0_122 : am_K0[122]? = some (50, 4) := by decide +kernel
theorem k0_123 : am_K0[123]? = some (50, 160) := by decide +kernel
theorem k0_124 : am_K0[124]? = some (50, 12) := by decide +kernel
theorem k0_125 : am_K0[125]? = some (50, 12) := by decide +kernel
theorem k0_126 : am_K0[126]? = some (50, 12) := by decide +kernel
theorem k0_127 : am_K0[127]? = some (50, 12) := by decide +kernel
theorem k0_128 : am_K0[128]? = some (50, 40) := by decide +kernel
theorem k0_129 : am_K0[129]? = some (50, 40) := by decide +kernel
theorem k0_130 : am_K0[130]? = some (50, 40) := by decide +kernel
theorem k0_131 : am_K0[131]? = some (50, 40) := by decide +kernel
theorem k0_132 : am_K0[132]? = some (51, 40) := by decide +kernel
theorem k0_133 : am_K0[133]? = some (50, 8) := by decide +kernel
theorem k0_134 : am_K0[134]? = some (50, 8) := by decide +kernel
theorem k0_135 : am_K0[135]? = some (50, 8) := by decide +kernel
theorem k0_136 : am_K0[136]? = some (50, 13824) := by decide +kernel
theorem k0_137 : am_K0[137]? = some (50, 9) := by decide +kernel
theorem k0_138 : am_K0[138]? = some (50, 529) := by decide +kernel
theorem k0_139 : am_K0[139]? = some (50, 241) := by decide +kernel
theorem k0_140 : am_K0[140]? = some (50, 8) := by decide +kernel
theorem p0_0_0 : am_pg am_P0 0 0 = some 1 := by decide +kernel
theorem p0_0_1 : am_pg am_P0 0 1 = some 35 := by decide +kernel
theorem p0_0_2 : am_pg am_P0 0 2 = some 83 := by decide +kernel
theorem p0_0_3 : am_pg am_P0 0 3 = some 87 := by decide +kernel
theorem p0_0_4 : am_pg am_P0 0 4 = some 88 := by decide +kernel
theorem p0_0_5 : am_pg am_P0 0 5 = some 91 := by decide +kernel
theorem p0_0_6 : am_pg am_P0 0 6 = some 96 := by decide +kernel
theorem p0_1_0 : am_pg am_P0 1 0 = some 2 := by decide +kernel
theorem p0_3_12 : am_pg am_P0 3 12 = some 4 := by decide +kernel
theorem p0_3_13 : am_pg am_P0 3 13 = some 5 := by decide +kernel
theorem p0_3_14 : am_pg am_P0 3 14 = some 6 := by decide +kernel
theorem p0_7_12 : am_pg am_P0 7 12 = some 8 := by decide +kernel
theorem p0_7_13 : am_pg am_P0 7 13 = some 9 := by decide +kernel
theorem p0_7_14 : am_pg am_P0 7 14 = some 10 := by decide +kernel
theorem p0_11_12 : am_pg am_P0 11 12 = some 12 := by decide +kernel
theorem p0_11_13 : am_pg am_P0 11 13 = some 13 := by decide +kernel
theorem p0_11_14 : am_pg am_P0 11 14 = some 14 := by decide +kernel
theorem p0_15_12 : am_pg am_P0 15 12 = some 16 := by decide +kernel
theorem p0_15_13 : am_pg am_P0 15 13 = some 17 := by decide +kernel
theorem p0_15_14 : am_pg am_P0 15 14 = some 18 := by decide +kernel
theorem p0_19_12 : am_pg am_P0 19 12 = some 20 := by decide +kernel
theorem p0_19_13 : am_pg am_P0 19 13 = some 21 := by decide +kernel
theorem p0_19_14 : am_pg am_P0 19 14 = some 22 := by decide +kernel
theorem p0_23_12 : am_pg am_P0 23 12 = some 24 := by decide +kernel
theorem p0_23_13 : am_pg am_P0 23 13 = some 25 := by decide +kernel
theorem p0_23_14 : am_pg am_P0 23 14 = some 26 := by decide +kernel
theorem p0_27_12 : am_pg am_P0 27 12 = some 28 := by decide +kernel
theorem p0_27_13 : am_pg am_P0 27 13 = some 29 := by decide +kernel
theorem p0_27_14 : am_pg am_P0 27 14 = some 30 := by decide +kernel
theorem p0_31_12 : am_pg am_P0 31 12 = some 32 := by decide +kernel
theorem p0_31_13 : am_pg am_P0 31 13 = some 33 := by decide +kernel
theorem p0_31_14 : am_pg am_P0 31 14 = some 34 := by decide +kernel
theorem p0_35_0 : am_pg am_P0 35 0 = some 1 := by decide +kernel
theorem p0_35_1 : am_pg am_P0 35 1 = some 36 := by decide +kernel
theorem p0_35_3 : am_pg am_P0 35 3 = some 37 := by decide +kernel
theorem p0_35_4 : am_pg am_P0 35 4 = some 38 := by decide +kernel
theorem p0_35_5 : am_pg am_P0 35 5 = some 39 := by decide +kernel
theorem p0_35_6 : am_pg am_P0 35 6 = some 40 := by decide +kernel
theorem p0_35_7 : am_pg am_P0 35 7 = some 41 := by decide +kernel
theorem p0_35_8 : am_pg am_P0 35 8 = some 42 := by decide +kernel
theorem p0_83_0 : am_pg am_P0 83 0 = some 35 := by decide +kernel
theorem p0_83_1 : am_pg am_P0 83 1 = some 84 := by decide +kernel
theorem p0_83_2 : am_pg am_P0 83 2 = some 85 := by decide +kernel
theorem p0_83_3 : am_pg am_P0 83 3 = some 86 := by decide +kernel
theorem p0_87_0 : am_pg am_P0 87 0 = some 35 := by decide +kernel
theorem p0_88_0 : am_pg am_P0 88 0 = some 83 := by decide +kernel
theorem p0_88_6 : am_pg am_P0 88 6 = some 89 := by decide +kernel
theorem p0_88_7 : am_pg am_P0 88 7 = some 90 := by decide +kernel
theorem p0_91_0 : am_pg am_P0 91 0 = some 92 := by decide +kernel
theorem p0_91_1 : am_pg am_P0 91 1 = some 93 := by decide +kernel
theorem p0_91_2 : am_pg am_P0 91 2 = some 94 := by decide +kernel
theorem p0_91_3 : am_pg am_P0 91 3 = some 95 := by decide +kernel
theorem p0_97_0 : am_pg am_P0 97 0 = some 98 := by decide +kernel
theorem p0_99_0 : am_pg am_P0 99 0 = some 100 := by decide +kernel
theorem p0_101_0 : am_pg am_P0 101 0 = some 102 := by decide +kernel
theorem p0_103_0 : am_pg am_P0 103 0 = some 104 := by decide +kernel
theorem p0_105_3 : am_pg am_P0 105 3 = some 106 := by decide +kernel
theorem p0_105_4 : am_pg am_P0 105 4 = some 107 := by decide +kernel
theorem p0_105_5 : am_pg am_P0 105 5 = some 108 := by decide +kernel
theorem p0_105_6 : am_pg am_P0 105 6 = some 109 := by decide +kernel
theorem p0_105_7 : am_pg am_P0 105 7 = some 110 := by decide +kernel
theorem p0_105_8 : am_pg am_P0 105 8 = some 111 := by decide +kernel
theorem p0_105_9 : am_pg am_P0 105 9 = some 112 := by decide +kernel
theorem p0_105_10 : am_pg am_P0 105 10 = some 113 := by decide +kernel
theorem p0_105_11 : am_pg am_P0 105 11 = some 114 := by decide +kernel
theorem p0_105_12 : am_pg am_P0 105 12 = some 115 := by decide +kernel
theorem p0_105_13 : am_pg am_P0 105 13 = some 116 := by decide +kernel
theorem p0_105_14 : am_pg am_P0 105 14 = some 117 := by decide +kernel
theorem p0_105_15 : am_pg am_P0 105 15 = some 118 := by decide +kernel
theorem p0_105_16 : am_pg am_P0 105 16 = some 119 := by decide +kernel
theorem p0_105_17 : am_pg am_P0 105 17 = some 120 := by decide +kernel
theorem p0_105_18 : am_pg am_P0 105 18 = some 121 := by decide +kernel
theorem p0_105_19 : am_pg am_P0 105 19 = some 122 := by decide +kernel
theorem p0_105_20 : am_pg am_P0 105 20 = some 123 := by decide +kernel
theorem p0_105_22 : am_pg am_P0 105 22 = some 124 := by decide +kernel
theorem p0_105_23 : am_pg am_P0 105 23 = some 125 := by decide +kernel
theorem p0_105_24 : am_pg am_P0 105 24 = some 126 := by decide +kernel
theorem p0_105_25 : am_pg am_P0 105 25 = some 127 := by decide +kernel
theorem p0_105_27 : am_pg am_P0 105 27 = some 128 := by decide +kernel
theorem p0_105_28 : am_pg am_P0 105 28 = some 129 := by decide +kernel
theorem p0_105_29 : am_pg am_P0 105 29 = some 130 := by decide +kernel
theorem p0_105_30 : am_pg am_P0 105 30 = some 131 := by decide +kernel
theorem p0_105_31 : am_pg am_P0 105 31 = some 132 := by decide +kernel
theorem p0_105_37 : am_pg am_P0 105 37 = some 133 := by decide +kernel
theorem p0_105_38 : am_pg am_P0 105 38 = some 134 := by decide +kernel
theorem p0_105_39 : am_pg am_P0 105 39 = some 135 := by decide +kernel
theorem p0_105_42 : am_pg am_P0 105 42 = some 136 := by decide +kernel
theorem p0_105_51 : am_pg am_P0 105 51 = some 137 := by decide +kernel
theorem p0_105_55 : am_pg am_P0 105 55 = some 138 := by decide +kernel
theorem p0_105_56 : am_pg am_P0 105 56 = some 139 := by decide +kernel
theorem p0_105_57 : am_pg am_P0 105 57 = some 140 := by decide +kernel
/-- an index of a row of n -/
def am_ix (x : Int32) (n : Nat) : Prop := ¬ (x < 0 ∨ n ≤ x.toNatClampNeg)
theorem am_ix_lt {x : Int32} {n : Nat} (h : am_ix x n) : x.toNatClampNeg < n := Nat.not_le.mp fun q => h (Or.inr q)
theorem am_nscr {a c n : Nat} (h : am_K0[a]? = some (c, n)) : a ≠ am_scr := by
  intro e
  subst e
  have := am_in h
  exact absurd this (by decide +kernel)
def am_isH (a : Nat) : Prop := ∃ h, h < 8 ∧ a = 3 + 4 * h
def am_isR (a : Nat) : Prop := ∃ r, r < 40 ∧ a = 43 + r
def am_isS (a : Nat) : Prop := ∃ k, k < 4 ∧ a = 97 + 2 * k
theorem isH_of {x : Int32} (h : am_ix x 8) : am_isH (3 + 4 * (Int32.toNatClampNeg x)) := ⟨_, am_ix_lt h, rfl⟩
theorem isR_of {x : Int32} (h : am_ix x 40) : am_isR (43 + (Int32.toNatClampNeg x)) := ⟨_, am_ix_lt h, rfl⟩
theorem isS_of {x : Int32} (h : am_ix x 4) : am_isS (97 + 2 * (Int32.toNatClampNeg x)) := ⟨_, am_ix_lt h, rfl⟩
theorem k0_qH : ∀ h, h < 8 → am_K0[3 + 4 * h]? = some (4, 15) ∧ am_K0[3 + 4 * h + 1]? = some (50, 6) ∧ am_K0[3 + 4 * h + 2]? = some (50, 6) ∧ am_K0[3 + 4 * h + 3]? = some (50, 6) ∧ am_pg am_P0 (3 + 4 * h) 12 = some (3 + 4 * h + 1) ∧ am_pg am_P0 (3 + 4 * h) 13 = some (3 + 4 * h + 2) ∧ am_pg am_P0 (3 + 4 * h) 14 = some (3 + 4 * h + 3) ∧ am_pg am_P0 2 h = some (3 + 4 * h) := by decide +kernel
theorem k0_qR : ∀ r, r < 40 → am_K0[43 + r]? = some (7, 5) ∧ am_pg am_P0 36 r = some (43 + r) := by decide +kernel
theorem k0_qS : ∀ k, k < 4 → am_K0[97 + 2 * k]? = some (8, 4) ∧ am_K0[97 + 2 * k + 1]? = some (50, 40) ∧ am_pg am_P0 (97 + 2 * k) 0 = some (97 + 2 * k + 1) ∧ am_pg am_P0 96 k = some (97 + 2 * k) := by decide +kernel
theorem k0_H {a : Nat} (h : am_isH a) : am_K0[a]? = some (4, 15) := by
  obtain ⟨h, hh, rfl⟩ := h
  exact (k0_qH h hh).1
theorem k0_H1 {a : Nat} (h : am_isH a) : am_K0[a + 1]? = some (50, 6) := by
  obtain ⟨h, hh, rfl⟩ := h
  exact (k0_qH h hh).2.1
theorem k0_H2 {a : Nat} (h : am_isH a) : am_K0[a + 2]? = some (50, 6) := by
  obtain ⟨h, hh, rfl⟩ := h
  exact (k0_qH h hh).2.2.1
theorem k0_H3 {a : Nat} (h : am_isH a) : am_K0[a + 3]? = some (50, 6) := by
  obtain ⟨h, hh, rfl⟩ := h
  exact (k0_qH h hh).2.2.2.1
theorem p0_H1 {a : Nat} (h : am_isH a) : am_pg am_P0 a 12 = some (a + 1) := by
  obtain ⟨h, hh, rfl⟩ := h
  exact (k0_qH h hh).2.2.2.2.1
theorem p0_H2 {a : Nat} (h : am_isH a) : am_pg am_P0 a 13 = some (a + 2) := by
  obtain ⟨h, hh, rfl⟩ := h
  exact (k0_qH h hh).2.2.2.2.2.1
theorem p0_H3 {a : Nat} (h : am_isH a) : am_pg am_P0 a 14 = some (a + 3) := by
  obtain ⟨h, hh, rfl⟩ := h
  exact (k0_qH h hh).2.2.2.2.2.2.1
theorem p0_2 {x : Int32} (h : am_ix x 8) : am_pg am_P0 2 (Int32.toNatClampNeg x) = some (3 + 4 * (Int32.toNatClampNeg x)) := (k0_qH _ (am_ix_lt h)).2.2.2.2.2.2.2
theorem k0_R {a : Nat} (h : am_isR a) : am_K0[a]? = some (7, 5) := by
  obtain ⟨h, hh, rfl⟩ := h
  exact (k0_qR h hh).1
theorem p0_36 {x : Int32} (h : am_ix x 40) : am_pg am_P0 36 (Int32.toNatClampNeg x) = some (43 + (Int32.toNatClampNeg x)) := (k0_qR _ (am_ix_lt h)).2
theorem k0_S {a : Nat} (h : am_isS a) : am_K0[a]? = some (8, 4) := by
  obtain ⟨h, hh, rfl⟩ := h
  exact (k0_qS h hh).1
theorem k0_S1 {a : Nat} (h : am_isS a) : am_K0[a + 1]? = some (50, 40) := by
  obtain ⟨h, hh, rfl⟩ := h
  exact (k0_qS h hh).2.1
theorem p0_S1 {a : Nat} (h : am_isS a) : am_pg am_P0 a 0 = some (a + 1) := by
  obtain ⟨h, hh, rfl⟩ := h
  exact (k0_qS h hh).2.2.1
theorem p0_96 {x : Int32} (h : am_ix x 4) : am_pg am_P0 96 (Int32.toNatClampNeg x) = some (97 + 2 * (Int32.toNatClampNeg x)) := (k0_qS _ (am_ix_lt h)).2.2.2
def am_rty (ty : FieldType) : Bool := match ty with
  | .object _ => true
  | .array _ => true
  | _ => false
theorem am_far {I : Nat → Nat → Int32} {J : Nat → Nat → Int64} {a f b : Nat} {ty : FieldType} (hp : am_pg am_P0 a f = some b) (h : am_rty ty = true) : am_fa (am_N I J) a f ty = .ref b := by
  cases ty <;> first | (simp [am_rty] at h; done) | (show va_rf (am_pg am_P0 a f) = _; rw [hp]; rfl)
theorem am_spl {c A B : Prop} [Decidable c] (kt : c → A) (kf : ¬ c → B) : (if c then A else B) := by
  by_cases h : c
  · rw [if_pos h]
    exact kt h
  · rw [if_neg h]
    exact kf h
theorem am_kt {c : Prop} [Decidable c] {a b : Int32} {F : Int32 → Prop} (h : c) (k : F (if c then a else b)) : F a := by
  rw [if_pos h] at k
  exact k
theorem am_kf {c : Prop} [Decidable c] {a b : Int32} {F : Int32 → Prop} (h : ¬ c) (k : F (if c then a else b)) : F b := by
  rw [if_neg h] at k
  exact k
theorem am_tout {x : Int32} {lo hi : Int} (h : ∀ z : Int, lo ≤ z → z ≤ hi → x.toInt = z → False) : x.toInt < lo ∨ hi < x.toInt := by
  by_cases h1 : x.toInt < lo
  · exact Or.inl h1
  · by_cases h2 : hi < x.toInt
    · exact Or.inr h2
    · exact (h x.toInt (by omega) (by omega) rfl).elim
theorem am_of_toInt {x c : Int32} {z : Int} (h : x.toInt = z) (hc : c.toInt = z) : x = c := Int32.toInt_inj.mp (h.trans hc.symm)
-- the numbers' own operations
def am_shl (x y : Int32) : Int32 := x <<< (y &&& 31)
def am_shr (x y : Int32) : Int32 := x >>> (y &&& 31)
def am_ushr (x y : Int32) : Int32 := (x.toUInt32 >>> (y.toUInt32 &&& Int32.toUInt32 31)).toInt32
def am_rem (x y : Int32) : Int32 := x - x / y * y
def am_i2b (x : Int32) : Int32 := x.toInt8.toInt32
def am_i2s (x : Int32) : Int32 := x.toInt16.toInt32
def am_max (x y : Int32) : Int32 := if x < y then y else x
def am_min (x y : Int32) : Int32 := if y < x then y else x
def am_abs (x : Int32) : Int32 := if 0 ≤ x then x else 0 - x
def am_lshl (x : Int64) (y : Int32) : Int64 := x <<< (y.toInt64 &&& 63)
def am_lshr (x : Int64) (y : Int32) : Int64 := x >>> (y.toInt64 &&& 63)
def am_lushr (x : Int64) (y : Int32) : Int64 := (x.toUInt64 >>> (y.toInt64.toUInt64 &&& Int64.toUInt64 63)).toInt64
theorem am_aft {X : am_X} {d j pc : Nat} {ls st : List Value} {r : Value} {σ : am_M} {Q : Option Value → am_M → Prop} (k : am_wp X d j pc ls (r :: st) σ Q) : am_wp X d j pc ls ((some r).toList ++ st) σ Q := k
theorem am_aft0 {X : am_X} {d j pc : Nat} {ls st : List Value} {σ : am_M} {Q : Option Value → am_M → Prop} (k : am_wp X d j pc ls st σ Q) : am_wp X d j pc ls ((none : Option Value).toList ++ st) σ Q := k
theorem am_neq {x a b : Int32} (h : x = a) (hab : ¬ a = b) : ¬ x = b := fun e => hab (h.symm.trans e)
theorem am_nz {y : Int32} (h : ¬ y ≤ 0) : ¬ y = 0 := fun e => h (e ▸ Int32.le_refl 0)
theorem am_nz' {y : Int32} (h : 0 < y) : ¬ y = 0 := by
  intro e
  subst e
  exact absurd h (by decide)
theorem am_lout {α : Type} {ps : Array (Int × Int)} {d : Int} {x : Int32} {r : α} (hp : (ps.toList.zip (ps.toList.drop 1)).all (fun (a, next) => a.1 < next.1) = true) (h : ∀ q ∈ ps.toList, x.toInt = q.1 → False) : (if (ps.toList.zip (ps.toList.drop 1)).all (fun (a, next) => a.1 < next.1) = true then some (Op.lookupswitch.offset ps.toList d x.toInt, r) else none) = some (d, r) := by
  rw [if_pos hp]
  have : ∀ l : List (Int × Int), (∀ q ∈ l, x.toInt = q.1 → False) → Op.lookupswitch.offset l d x.toInt = d := by
    intro l
    induction l with
    | nil => intro _; rfl
    | cons q l ih =>
      intro hq
      obtain ⟨a, o⟩ := q
      rw [Op.lookupswitch.offset_cons]
      have h1 : ¬ x.toInt = a := fun e => hq (a, o) List.mem_cons_self e
      simp [h1, Ne.symm h1, ih (fun q hm => hq q (List.mem_cons_of_mem _ hm))]
  rw [this ps.toList h]


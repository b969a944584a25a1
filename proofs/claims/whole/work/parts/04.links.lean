theorem tb1 (i : Nat) {w : Cond} (h : tables_1_1[i]? = some w) (hg : goodWord w = true) : w ∈ TBL := List.mem_filter.mpr ⟨List.mem_append_right _ (show w ∈ tables_1_1 ++ (tables_1_2 ++ (tables_1_3 ++ (tables_1_4 ++ (tables_1_5 ++ tables_1_6)))) from List.mem_append_left _ ((List.mem_of_getElem? h))), hg⟩
theorem tb2 (i : Nat) {w : Cond} (h : tables_1_2[i]? = some w) (hg : goodWord w = true) : w ∈ TBL := List.mem_filter.mpr ⟨List.mem_append_right _ (show w ∈ tables_1_1 ++ (tables_1_2 ++ (tables_1_3 ++ (tables_1_4 ++ (tables_1_5 ++ tables_1_6)))) from List.mem_append_right _ (List.mem_append_left _ ((List.mem_of_getElem? h)))), hg⟩
theorem tb3 (i : Nat) {w : Cond} (h : tables_1_3[i]? = some w) (hg : goodWord w = true) : w ∈ TBL := List.mem_filter.mpr ⟨List.mem_append_right _ (show w ∈ tables_1_1 ++ (tables_1_2 ++ (tables_1_3 ++ (tables_1_4 ++ (tables_1_5 ++ tables_1_6)))) from List.mem_append_right _ (List.mem_append_right _ (List.mem_append_left _ ((List.mem_of_getElem? h))))), hg⟩
theorem tb4 (i : Nat) {w : Cond} (h : tables_1_4[i]? = some w) (hg : goodWord w = true) : w ∈ TBL := List.mem_filter.mpr ⟨List.mem_append_right _ (show w ∈ tables_1_1 ++ (tables_1_2 ++ (tables_1_3 ++ (tables_1_4 ++ (tables_1_5 ++ tables_1_6)))) from List.mem_append_right _ (List.mem_append_right _ (List.mem_append_right _ (List.mem_append_left _ ((List.mem_of_getElem? h)))))), hg⟩
theorem tb5 (i : Nat) {w : Cond} (h : tables_1_5[i]? = some w) (hg : goodWord w = true) : w ∈ TBL := List.mem_filter.mpr ⟨List.mem_append_right _ (show w ∈ tables_1_1 ++ (tables_1_2 ++ (tables_1_3 ++ (tables_1_4 ++ (tables_1_5 ++ tables_1_6)))) from List.mem_append_right _ (List.mem_append_right _ (List.mem_append_right _ (List.mem_append_right _ (List.mem_append_left _ ((List.mem_of_getElem? h))))))), hg⟩
theorem tb6 (i : Nat) {w : Cond} (h : tables_1_6[i]? = some w) (hg : goodWord w = true) : w ∈ TBL := List.mem_filter.mpr ⟨List.mem_append_right _ (show w ∈ tables_1_1 ++ (tables_1_2 ++ (tables_1_3 ++ (tables_1_4 ++ (tables_1_5 ++ tables_1_6)))) from List.mem_append_right _ (List.mem_append_right _ (List.mem_append_right _ (List.mem_append_right _ (List.mem_append_right _ ((List.mem_of_getElem? h))))))), hg⟩
theorem in_of (ws : List Cond) (ps : List Nat) (hp : ws = ps.filterMap (fun i => tables_1[i]?)) (hg : ws.all goodWord = true) : ∀ w ∈ ws, w ∈ TBL := by
  intro w hw
  have h1 := List.all_eq_true.mp hg w hw
  rw [hp] at hw
  obtain ⟨i, -, hi⟩ := List.mem_filterMap.mp hw
  exact List.mem_filter.mpr ⟨List.mem_append_right _ (List.mem_of_getElem? hi), h1⟩
set_option maxRecDepth 20000 in
theorem in_X0 : ∀ w ∈ u_ws RX0 TX0 5, w ∈ TBL := in_of _ [185, 187, 189, 191, 193] (by decide +kernel) (by decide +kernel)
theorem cl_0 : CL[0]? = some (RX0, TX0, 5) := rfl
set_option maxRecDepth 20000 in
theorem in_X1 : ∀ w ∈ u_ws RX1 TX1 14, w ∈ TBL := in_of _ [102, 104, 106, 108, 110, 112, 114, 116, 118, 120, 122, 124, 126, 128] (by decide +kernel) (by decide +kernel)
theorem cl_1 : CL[1]? = some (RX1, TX1, 14) := rfl
set_option maxRecDepth 20000 in
theorem in_X2 : ∀ w ∈ u_ws RX2 TX2 7, w ∈ TBL := in_of _ [47, 49, 51, 53, 55, 57, 59] (by decide +kernel) (by decide +kernel)
theorem cl_2 : CL[2]? = some (RX2, TX2, 7) := rfl
set_option maxRecDepth 20000 in
theorem in_X3 : ∀ w ∈ u_ws RX3 TX3 3, w ∈ TBL := in_of _ [143, 145, 147] (by decide +kernel) (by decide +kernel)
theorem cl_3 : CL[3]? = some (RX3, TX3, 3) := rfl
set_option maxRecDepth 20000 in
theorem in_X4 : ∀ w ∈ u_ws RX4 TX4 3, w ∈ TBL := in_of _ [209, 211, 213] (by decide +kernel) (by decide +kernel)
theorem cl_4 : CL[4]? = some (RX4, TX4, 3) := rfl
set_option maxRecDepth 20000 in
theorem in_X5 : ∀ w ∈ u_ws RX5 TX5 4, w ∈ TBL := in_of _ [162, 164, 166, 168] (by decide +kernel) (by decide +kernel)
theorem cl_5 : CL[5]? = some (RX5, TX5, 4) := rfl
set_option maxRecDepth 20000 in
theorem in_X6 : ∀ w ∈ u_ws RX6 TX6 15, w ∈ TBL := in_of _ [232, 234, 236, 238, 240, 242, 244, 246, 248, 250, 252, 254, 256, 258, 260] (by decide +kernel) (by decide +kernel)
theorem cl_6 : CL[6]? = some (RX6, TX6, 15) := rfl
set_option maxRecDepth 20000 in
theorem in_X7 : ∀ w ∈ u_ws RX7 TX7 87, w ∈ TBL := in_of _ [810, 812, 814, 816, 818, 820, 822, 824, 826, 828, 830, 832, 834, 836, 838, 840, 842, 844, 846, 848, 850, 852, 854, 856, 858, 860, 862, 864, 866, 868, 870, 872, 874, 876, 878, 880, 882, 884, 886, 888, 890, 892, 894, 896, 898, 900, 902, 904, 906, 908, 910, 912, 914, 916, 918, 920, 922, 924, 926, 928, 930, 932, 934, 936, 938, 940, 942, 944, 946, 948, 950, 952, 954, 956, 958, 960, 962, 964, 966, 968, 970, 972, 974, 976, 978, 980, 982] (by decide +kernel) (by decide +kernel)
theorem cl_7 : CL[7]? = some (RX7, TX7, 87) := rfl
def K7 : List Nat := [0, 0, 0, 0, 0, 0, 2, 2, 2, 2, 2, 2, 2, 0, 0, 0, 0, 0, 2, 2, 2, 2, 2, 2, 2, 2, 0, 0, 0, 2, 2, 0, 0, 2, 0, 0, 0, 0, 0, 2, 2, 2, 2, 0, 2, 0, 0, 2, 0, 2, 2, 0, 0, 2, 2, 2, 2, 0, 0, 0, 0, 0, 0, 0, 0, 0, 0, 0, 2, 2, 2, 2, 2, 2, 2, 2, 2, 2, 2, 2, 2, 0, 2, 2, 2, 2, 2]
theorem sh_0 : SH[0]? = some (0, 6, [2, 2, 2, 2, 2, 2, 2, 2, 2, 0, 2, 0, 2, 2, 2]) := rfl
theorem sh_1 : SH[1]? = some (0, 2, [2, 2, 2, 2, 0, 0, 0]) := rfl
theorem sh_2 : SH[2]? = some (1, 100, []) := rfl
theorem sh_3 : SH[3]? = some (1, 100, []) := rfl
theorem sh_4 : SH[4]? = some (1, 100, []) := rfl
theorem sh_5 : SH[5]? = some (1, 6, []) := rfl
theorem sh_6 : SH[6]? = some (0, 1, [2, 2, 2, 2, 2, 2, 2, 0, 0, 0, 0, 0, 0, 3]) := rfl
theorem sh_7 : SH[7]? = some (1, 6, []) := rfl
theorem sh_8 : SH[8]? = some (1, 6, []) := rfl
theorem sh_9 : SH[9]? = some (1, 6, []) := rfl
theorem sh_10 : SH[10]? = some (1, 6, []) := rfl
theorem sh_11 : SH[11]? = some (1, 6, []) := rfl
theorem sh_12 : SH[12]? = some (1, 24, []) := rfl
theorem sh_13 : SH[13]? = some (1, 3, []) := rfl
theorem sh_14 : SH[14]? = some (0, 1, [2, 2, 2, 2, 2, 2, 2, 0, 0, 0, 0, 0, 0, 3]) := rfl
theorem sh_15 : SH[15]? = some (1, 6, []) := rfl
theorem sh_16 : SH[16]? = some (1, 6, []) := rfl
theorem sh_17 : SH[17]? = some (1, 6, []) := rfl
theorem sh_18 : SH[18]? = some (1, 6, []) := rfl
theorem sh_19 : SH[19]? = some (1, 6, []) := rfl
theorem sh_20 : SH[20]? = some (1, 24, []) := rfl
theorem sh_21 : SH[21]? = some (1, 3, []) := rfl
theorem sh_22 : SH[22]? = some (0, 1, [2, 2, 2, 2, 2, 2, 2, 0, 0, 0, 0, 0, 0, 3]) := rfl
theorem sh_23 : SH[23]? = some (1, 6, []) := rfl
theorem sh_24 : SH[24]? = some (1, 6, []) := rfl
theorem sh_25 : SH[25]? = some (1, 6, []) := rfl
theorem sh_26 : SH[26]? = some (1, 6, []) := rfl
theorem sh_27 : SH[27]? = some (1, 6, []) := rfl
theorem sh_28 : SH[28]? = some (1, 24, []) := rfl
theorem sh_29 : SH[29]? = some (1, 3, []) := rfl
theorem sh_30 : SH[30]? = some (0, 3, [2, 2, 0]) := rfl
theorem sh_31 : SH[31]? = some (1, 5, []) := rfl
theorem sh_32 : SH[32]? = some (1, 5, []) := rfl
theorem sh_33 : SH[33]? = some (0, 3, [2, 2, 0]) := rfl
theorem sh_34 : SH[34]? = some (1, 10, []) := rfl
theorem sh_35 : SH[35]? = some (1, 10, []) := rfl
theorem sh_36 : SH[36]? = some (0, 3, [2, 2, 0]) := rfl
theorem sh_37 : SH[37]? = some (1, 8, []) := rfl
theorem sh_38 : SH[38]? = some (1, 8, []) := rfl
theorem sh_39 : SH[39]? = some (0, 3, [2, 2, 0]) := rfl
theorem sh_40 : SH[40]? = some (1, 5, []) := rfl
theorem sh_41 : SH[41]? = some (1, 5, []) := rfl
theorem sh_42 : SH[42]? = some (0, 3, [2, 2, 0]) := rfl
theorem sh_43 : SH[43]? = some (1, 10, []) := rfl
theorem sh_44 : SH[44]? = some (1, 10, []) := rfl
theorem sh_45 : SH[45]? = some (0, 3, [2, 2, 0]) := rfl
theorem sh_46 : SH[46]? = some (1, 8, []) := rfl
theorem sh_47 : SH[47]? = some (1, 8, []) := rfl
theorem sh_48 : SH[48]? = some (5, 6, []) := rfl
theorem sh_49 : SH[49]? = some (0, 2, [2, 2, 2, 2, 0, 0, 0]) := rfl
theorem sh_50 : SH[50]? = some (1, 100, []) := rfl
theorem sh_51 : SH[51]? = some (1, 100, []) := rfl
theorem sh_52 : SH[52]? = some (1, 100, []) := rfl
theorem sh_53 : SH[53]? = some (1, 6, []) := rfl
theorem sh_54 : SH[54]? = some (0, 2, [2, 2, 2, 2, 0, 0, 0]) := rfl
theorem sh_55 : SH[55]? = some (1, 100, []) := rfl
theorem sh_56 : SH[56]? = some (1, 100, []) := rfl
theorem sh_57 : SH[57]? = some (1, 100, []) := rfl
theorem sh_58 : SH[58]? = some (1, 6, []) := rfl
theorem sh_59 : SH[59]? = some (0, 2, [2, 2, 2, 2, 0, 0, 0]) := rfl
theorem sh_60 : SH[60]? = some (1, 100, []) := rfl
theorem sh_61 : SH[61]? = some (1, 100, []) := rfl
theorem sh_62 : SH[62]? = some (1, 100, []) := rfl
theorem sh_63 : SH[63]? = some (1, 6, []) := rfl
theorem sh_64 : SH[64]? = some (0, 2, [2, 2, 2, 2, 0, 0, 0]) := rfl
theorem sh_65 : SH[65]? = some (1, 100, []) := rfl
theorem sh_66 : SH[66]? = some (1, 100, []) := rfl
theorem sh_67 : SH[67]? = some (1, 100, []) := rfl
theorem sh_68 : SH[68]? = some (1, 6, []) := rfl
theorem sh_69 : SH[69]? = some (0, 2, [2, 2, 2, 2, 0, 0, 0]) := rfl
theorem sh_70 : SH[70]? = some (1, 100, []) := rfl
theorem sh_71 : SH[71]? = some (1, 100, []) := rfl
theorem sh_72 : SH[72]? = some (1, 100, []) := rfl
theorem sh_73 : SH[73]? = some (1, 6, []) := rfl
theorem sh_74 : SH[74]? = some (0, 2, [2, 2, 2, 2, 0, 0, 0]) := rfl
theorem sh_75 : SH[75]? = some (1, 100, []) := rfl
theorem sh_76 : SH[76]? = some (1, 100, []) := rfl
theorem sh_77 : SH[77]? = some (1, 100, []) := rfl
theorem sh_78 : SH[78]? = some (1, 6, []) := rfl
theorem sh_79 : SH[79]? = some (0, 5, [2, 3, 0, 0]) := rfl
theorem sh_80 : SH[80]? = some (3, 100, []) := rfl
theorem sh_81 : SH[81]? = some (0, 0, [2, 0, 0, 0, 0]) := rfl
theorem sh_82 : SH[82]? = some (1, 20, []) := rfl
theorem sh_83 : SH[83]? = some (6, 6, []) := rfl
theorem sh_84 : SH[84]? = some (0, 4, [2, 0, 0]) := rfl
theorem sh_85 : SH[85]? = some (2, 60, []) := rfl
theorem sh_86 : SH[86]? = some (0, 4, [2, 0, 0]) := rfl
theorem sh_87 : SH[87]? = some (2, 60, []) := rfl
theorem sh_88 : SH[88]? = some (0, 4, [2, 0, 0]) := rfl
theorem sh_89 : SH[89]? = some (2, 60, []) := rfl
theorem sh_90 : SH[90]? = some (0, 4, [2, 0, 0]) := rfl
theorem sh_91 : SH[91]? = some (2, 60, []) := rfl
theorem sh_92 : SH[92]? = some (0, 4, [2, 0, 0]) := rfl
theorem sh_93 : SH[93]? = some (2, 60, []) := rfl
theorem sh_94 : SH[94]? = some (0, 4, [2, 0, 0]) := rfl
theorem sh_95 : SH[95]? = some (2, 60, []) := rfl
theorem sh_96 : SH[96]? = some (0, 7, K7) := rfl
theorem sh_97 : SH[97]? = some (1, 6, []) := rfl
theorem sh_98 : SH[98]? = some (1, 6, []) := rfl
theorem sh_99 : SH[99]? = some (1, 6, []) := rfl
theorem sh_100 : SH[100]? = some (1, 6, []) := rfl
theorem sh_101 : SH[101]? = some (1, 6, []) := rfl
theorem sh_102 : SH[102]? = some (1, 24, []) := rfl
theorem sh_103 : SH[103]? = some (1, 3, []) := rfl
theorem sh_104 : SH[104]? = some (1, 100, []) := rfl
theorem sh_105 : SH[105]? = some (1, 6, []) := rfl
theorem sh_106 : SH[106]? = some (1, 60, []) := rfl
theorem sh_107 : SH[107]? = some (1, 60, []) := rfl
theorem sh_108 : SH[108]? = some (1, 60, []) := rfl
theorem sh_109 : SH[109]? = some (1, 60, []) := rfl
theorem sh_110 : SH[110]? = some (1, 600, []) := rfl
theorem sh_111 : SH[111]? = some (1, 101, []) := rfl
theorem sh_112 : SH[112]? = some (1, 16, []) := rfl
theorem sh_113 : SH[113]? = some (4, 100, []) := rfl
theorem sh_114 : SH[114]? = some (1, 3, []) := rfl
theorem sh_115 : SH[115]? = some (1, 6, []) := rfl
theorem sh_116 : SH[116]? = some (1, 6, []) := rfl
theorem sh_117 : SH[117]? = some (1, 6, []) := rfl
theorem sh_118 : SH[118]? = some (1, 3, []) := rfl
theorem sh_119 : SH[119]? = some (1, 3, []) := rfl
theorem sh_120 : SH[120]? = some (1, 3, []) := rfl
theorem sh_121 : SH[121]? = some (1, 5, []) := rfl
theorem sh_122 : SH[122]? = some (1, 5, []) := rfl
theorem sh_123 : SH[123]? = some (1, 10, []) := rfl
theorem sh_124 : SH[124]? = some (1, 10, []) := rfl
theorem sh_125 : SH[125]? = some (1, 8, []) := rfl
theorem sh_126 : SH[126]? = some (1, 8, []) := rfl
theorem sh_127 : SH[127]? = some (1, 6, []) := rfl
theorem sh_128 : SH[128]? = some (1, 6, []) := rfl
theorem sh_129 : SH[129]? = some (1, 6, []) := rfl
theorem sh_130 : SH[130]? = some (1, 6, []) := rfl
theorem sh_131 : SH[131]? = some (1, 6, []) := rfl
theorem sh_132 : SH[132]? = some (1, 24, []) := rfl
theorem sh_133 : SH[133]? = some (1, 3, []) := rfl
theorem sh_134 : SH[134]? = some (1, 5, []) := rfl
theorem sh_135 : SH[135]? = some (1, 5, []) := rfl
theorem sh_136 : SH[136]? = some (1, 10, []) := rfl
theorem sh_137 : SH[137]? = some (1, 10, []) := rfl
theorem sh_138 : SH[138]? = some (1, 8, []) := rfl
theorem sh_139 : SH[139]? = some (1, 8, []) := rfl
theorem sh_140 : SH[140]? = some (1, 20, []) := rfl
theorem sh_141 : SH[141]? = some (1, 6, []) := rfl
theorem sh_142 : SH[142]? = some (1, 6, []) := rfl
theorem sh_143 : SH[143]? = some (2, 360, []) := rfl
theorem sh_144 : SH[144]? = some (2, 60, []) := rfl
theorem kd_0_0 : ([2, 0, 0, 0, 0] : List Nat)[0]? = some 2 := rfl
theorem kd_0_1 : ([2, 0, 0, 0, 0] : List Nat)[1]? = some 0 := rfl
theorem kd_0_2 : ([2, 0, 0, 0, 0] : List Nat)[2]? = some 0 := rfl
theorem kd_0_3 : ([2, 0, 0, 0, 0] : List Nat)[3]? = some 0 := rfl
theorem kd_0_4 : ([2, 0, 0, 0, 0] : List Nat)[4]? = some 0 := rfl
theorem kd_1_0 : ([2, 2, 2, 2, 2, 2, 2, 0, 0, 0, 0, 0, 0, 3] : List Nat)[0]? = some 2 := rfl
theorem kd_1_1 : ([2, 2, 2, 2, 2, 2, 2, 0, 0, 0, 0, 0, 0, 3] : List Nat)[1]? = some 2 := rfl
theorem kd_1_2 : ([2, 2, 2, 2, 2, 2, 2, 0, 0, 0, 0, 0, 0, 3] : List Nat)[2]? = some 2 := rfl
theorem kd_1_3 : ([2, 2, 2, 2, 2, 2, 2, 0, 0, 0, 0, 0, 0, 3] : List Nat)[3]? = some 2 := rfl
theorem kd_1_4 : ([2, 2, 2, 2, 2, 2, 2, 0, 0, 0, 0, 0, 0, 3] : List Nat)[4]? = some 2 := rfl
theorem kd_1_5 : ([2, 2, 2, 2, 2, 2, 2, 0, 0, 0, 0, 0, 0, 3] : List Nat)[5]? = some 2 := rfl
theorem kd_1_6 : ([2, 2, 2, 2, 2, 2, 2, 0, 0, 0, 0, 0, 0, 3] : List Nat)[6]? = some 2 := rfl
theorem kd_1_7 : ([2, 2, 2, 2, 2, 2, 2, 0, 0, 0, 0, 0, 0, 3] : List Nat)[7]? = some 0 := rfl
theorem kd_1_8 : ([2, 2, 2, 2, 2, 2, 2, 0, 0, 0, 0, 0, 0, 3] : List Nat)[8]? = some 0 := rfl
theorem kd_1_9 : ([2, 2, 2, 2, 2, 2, 2, 0, 0, 0, 0, 0, 0, 3] : List Nat)[9]? = some 0 := rfl
theorem kd_1_10 : ([2, 2, 2, 2, 2, 2, 2, 0, 0, 0, 0, 0, 0, 3] : List Nat)[10]? = some 0 := rfl
theorem kd_1_11 : ([2, 2, 2, 2, 2, 2, 2, 0, 0, 0, 0, 0, 0, 3] : List Nat)[11]? = some 0 := rfl
theorem kd_1_12 : ([2, 2, 2, 2, 2, 2, 2, 0, 0, 0, 0, 0, 0, 3] : List Nat)[12]? = some 0 := rfl
theorem kd_1_13 : ([2, 2, 2, 2, 2, 2, 2, 0, 0, 0, 0, 0, 0, 3] : List Nat)[13]? = some 3 := rfl
theorem kd_2_0 : ([2, 2, 2, 2, 0, 0, 0] : List Nat)[0]? = some 2 := rfl
theorem kd_2_1 : ([2, 2, 2, 2, 0, 0, 0] : List Nat)[1]? = some 2 := rfl
theorem kd_2_2 : ([2, 2, 2, 2, 0, 0, 0] : List Nat)[2]? = some 2 := rfl
theorem kd_2_3 : ([2, 2, 2, 2, 0, 0, 0] : List Nat)[3]? = some 2 := rfl
theorem kd_2_4 : ([2, 2, 2, 2, 0, 0, 0] : List Nat)[4]? = some 0 := rfl
theorem kd_2_5 : ([2, 2, 2, 2, 0, 0, 0] : List Nat)[5]? = some 0 := rfl
theorem kd_2_6 : ([2, 2, 2, 2, 0, 0, 0] : List Nat)[6]? = some 0 := rfl
theorem kd_3_0 : ([2, 2, 0] : List Nat)[0]? = some 2 := rfl
theorem kd_3_1 : ([2, 2, 0] : List Nat)[1]? = some 2 := rfl
theorem kd_3_2 : ([2, 2, 0] : List Nat)[2]? = some 0 := rfl
theorem kd_4_0 : ([2, 0, 0] : List Nat)[0]? = some 2 := rfl
theorem kd_4_1 : ([2, 0, 0] : List Nat)[1]? = some 0 := rfl
theorem kd_4_2 : ([2, 0, 0] : List Nat)[2]? = some 0 := rfl
theorem kd_5_0 : ([2, 3, 0, 0] : List Nat)[0]? = some 2 := rfl
theorem kd_5_1 : ([2, 3, 0, 0] : List Nat)[1]? = some 3 := rfl
theorem kd_5_2 : ([2, 3, 0, 0] : List Nat)[2]? = some 0 := rfl
theorem kd_5_3 : ([2, 3, 0, 0] : List Nat)[3]? = some 0 := rfl
theorem kd_6_0 : ([2, 2, 2, 2, 2, 2, 2, 2, 2, 0, 2, 0, 2, 2, 2] : List Nat)[0]? = some 2 := rfl
theorem kd_6_1 : ([2, 2, 2, 2, 2, 2, 2, 2, 2, 0, 2, 0, 2, 2, 2] : List Nat)[1]? = some 2 := rfl
theorem kd_6_2 : ([2, 2, 2, 2, 2, 2, 2, 2, 2, 0, 2, 0, 2, 2, 2] : List Nat)[2]? = some 2 := rfl
theorem kd_6_3 : ([2, 2, 2, 2, 2, 2, 2, 2, 2, 0, 2, 0, 2, 2, 2] : List Nat)[3]? = some 2 := rfl
theorem kd_6_4 : ([2, 2, 2, 2, 2, 2, 2, 2, 2, 0, 2, 0, 2, 2, 2] : List Nat)[4]? = some 2 := rfl
theorem kd_6_5 : ([2, 2, 2, 2, 2, 2, 2, 2, 2, 0, 2, 0, 2, 2, 2] : List Nat)[5]? = some 2 := rfl
theorem kd_6_6 : ([2, 2, 2, 2, 2, 2, 2, 2, 2, 0, 2, 0, 2, 2, 2] : List Nat)[6]? = some 2 := rfl
theorem kd_6_7 : ([2, 2, 2, 2, 2, 2, 2, 2, 2, 0, 2, 0, 2, 2, 2] : List Nat)[7]? = some 2 := rfl
theorem kd_6_8 : ([2, 2, 2, 2, 2, 2, 2, 2, 2, 0, 2, 0, 2, 2, 2] : List Nat)[8]? = some 2 := rfl
theorem kd_6_9 : ([2, 2, 2, 2, 2, 2, 2, 2, 2, 0, 2, 0, 2, 2, 2] : List Nat)[9]? = some 0 := rfl
theorem kd_6_10 : ([2, 2, 2, 2, 2, 2, 2, 2, 2, 0, 2, 0, 2, 2, 2] : List Nat)[10]? = some 2 := rfl
theorem kd_6_11 : ([2, 2, 2, 2, 2, 2, 2, 2, 2, 0, 2, 0, 2, 2, 2] : List Nat)[11]? = some 0 := rfl
theorem kd_6_12 : ([2, 2, 2, 2, 2, 2, 2, 2, 2, 0, 2, 0, 2, 2, 2] : List Nat)[12]? = some 2 := rfl
theorem kd_6_13 : ([2, 2, 2, 2, 2, 2, 2, 2, 2, 0, 2, 0, 2, 2, 2] : List Nat)[13]? = some 2 := rfl
theorem kd_6_14 : ([2, 2, 2, 2, 2, 2, 2, 2, 2, 0, 2, 0, 2, 2, 2] : List Nat)[14]? = some 2 := rfl
theorem kd_7_0 : (K7)[0]? = some 0 := rfl
theorem kd_7_1 : (K7)[1]? = some 0 := rfl
theorem kd_7_2 : (K7)[2]? = some 0 := rfl
theorem kd_7_3 : (K7)[3]? = some 0 := rfl
theorem kd_7_4 : (K7)[4]? = some 0 := rfl
theorem kd_7_5 : (K7)[5]? = some 0 := rfl
theorem kd_7_6 : (K7)[6]? = some 2 := rfl
theorem kd_7_7 : (K7)[7]? = some 2 := rfl
theorem kd_7_8 : (K7)[8]? = some 2 := rfl
theorem kd_7_9 : (K7)[9]? = some 2 := rfl
theorem kd_7_10 : (K7)[10]? = some 2 := rfl
theorem kd_7_11 : (K7)[11]? = some 2 := rfl
theorem kd_7_12 : (K7)[12]? = some 2 := rfl
theorem kd_7_13 : (K7)[13]? = some 0 := rfl
theorem kd_7_14 : (K7)[14]? = some 0 := rfl
theorem kd_7_15 : (K7)[15]? = some 0 := rfl
theorem kd_7_16 : (K7)[16]? = some 0 := rfl
theorem kd_7_17 : (K7)[17]? = some 0 := rfl
theorem kd_7_18 : (K7)[18]? = some 2 := rfl
theorem kd_7_19 : (K7)[19]? = some 2 := rfl
theorem kd_7_20 : (K7)[20]? = some 2 := rfl
theorem kd_7_21 : (K7)[21]? = some 2 := rfl
theorem kd_7_22 : (K7)[22]? = some 2 := rfl
theorem kd_7_23 : (K7)[23]? = some 2 := rfl
theorem kd_7_24 : (K7)[24]? = some 2 := rfl
theorem kd_7_25 : (K7)[25]? = some 2 := rfl
theorem kd_7_26 : (K7)[26]? = some 0 := rfl
theorem kd_7_27 : (K7)[27]? = some 0 := rfl
theorem kd_7_28 : (K7)[28]? = some 0 := rfl
theorem kd_7_29 : (K7)[29]? = some 2 := rfl
theorem kd_7_30 : (K7)[30]? = some 2 := rfl
theorem kd_7_31 : (K7)[31]? = some 0 := rfl
theorem kd_7_32 : (K7)[32]? = some 0 := rfl
theorem kd_7_33 : (K7)[33]? = some 2 := rfl
theorem kd_7_34 : (K7)[34]? = some 0 := rfl
theorem kd_7_35 : (K7)[35]? = some 0 := rfl
theorem kd_7_36 : (K7)[36]? = some 0 := rfl
theorem kd_7_37 : (K7)[37]? = some 0 := rfl
theorem kd_7_38 : (K7)[38]? = some 0 := rfl
theorem kd_7_39 : (K7)[39]? = some 2 := rfl
theorem kd_7_40 : (K7)[40]? = some 2 := rfl
theorem kd_7_41 : (K7)[41]? = some 2 := rfl
theorem kd_7_42 : (K7)[42]? = some 2 := rfl
theorem kd_7_43 : (K7)[43]? = some 0 := rfl
theorem kd_7_44 : (K7)[44]? = some 2 := rfl
theorem kd_7_45 : (K7)[45]? = some 0 := rfl
theorem kd_7_46 : (K7)[46]? = some 0 := rfl
theorem kd_7_47 : (K7)[47]? = some 2 := rfl
theorem kd_7_48 : (K7)[48]? = some 0 := rfl
theorem kd_7_49 : (K7)[49]? = some 2 := rfl
theorem kd_7_50 : (K7)[50]? = some 2 := rfl
theorem kd_7_51 : (K7)[51]? = some 0 := rfl
theorem kd_7_52 : (K7)[52]? = some 0 := rfl
theorem kd_7_53 : (K7)[53]? = some 2 := rfl
theorem kd_7_54 : (K7)[54]? = some 2 := rfl
theorem kd_7_55 : (K7)[55]? = some 2 := rfl
theorem kd_7_56 : (K7)[56]? = some 2 := rfl
theorem kd_7_57 : (K7)[57]? = some 0 := rfl
theorem kd_7_58 : (K7)[58]? = some 0 := rfl
theorem kd_7_59 : (K7)[59]? = some 0 := rfl
theorem kd_7_60 : (K7)[60]? = some 0 := rfl
theorem kd_7_61 : (K7)[61]? = some 0 := rfl
theorem kd_7_62 : (K7)[62]? = some 0 := rfl
theorem kd_7_63 : (K7)[63]? = some 0 := rfl
theorem kd_7_64 : (K7)[64]? = some 0 := rfl
theorem kd_7_65 : (K7)[65]? = some 0 := rfl
theorem kd_7_66 : (K7)[66]? = some 0 := rfl
theorem kd_7_67 : (K7)[67]? = some 0 := rfl
theorem kd_7_68 : (K7)[68]? = some 2 := rfl
theorem kd_7_69 : (K7)[69]? = some 2 := rfl
theorem kd_7_70 : (K7)[70]? = some 2 := rfl
theorem kd_7_71 : (K7)[71]? = some 2 := rfl
theorem kd_7_72 : (K7)[72]? = some 2 := rfl
theorem kd_7_73 : (K7)[73]? = some 2 := rfl
theorem kd_7_74 : (K7)[74]? = some 2 := rfl
theorem kd_7_75 : (K7)[75]? = some 2 := rfl
theorem kd_7_76 : (K7)[76]? = some 2 := rfl
theorem kd_7_77 : (K7)[77]? = some 2 := rfl
theorem kd_7_78 : (K7)[78]? = some 2 := rfl
theorem kd_7_79 : (K7)[79]? = some 2 := rfl
theorem kd_7_80 : (K7)[80]? = some 2 := rfl
theorem kd_7_81 : (K7)[81]? = some 0 := rfl
theorem kd_7_82 : (K7)[82]? = some 2 := rfl
theorem kd_7_83 : (K7)[83]? = some 2 := rfl
theorem kd_7_84 : (K7)[84]? = some 2 := rfl
theorem kd_7_85 : (K7)[85]? = some 2 := rfl
theorem kd_7_86 : (K7)[86]? = some 2 := rfl
abbrev mX0_init : MD := (yX0_init, cX0_init, 1, none)
abbrev mX0_start : MD := (yX0_start, cX0_start, 6, (some .int))
abbrev mX0_run : MD := (yX0_run, cX0_run, 9, (some .int))
abbrev mX0_ownerOf : MD := (yX0_ownerOf, cX0_ownerOf, 4, (some .int))
abbrev mX1_init : MD := (yX1_init, cX1_init, 2, none)
abbrev mX1_copyFrom : MD := (yX1_copyFrom, cX1_copyFrom, 2, none)
abbrev mX1_startFrom : MD := (yX1_startFrom, cX1_startFrom, 2, none)
abbrev mX1_take : MD := (yX1_take, cX1_take, 6, (some .int))
abbrev mX1_has : MD := (yX1_has, cX1_has, 2, (some .boolean))
abbrev mX1_placeOf : MD := (yX1_placeOf, cX1_placeOf, 3, (some .int))
abbrev mX1_putUpon : MD := (yX1_putUpon, cX1_putUpon, 2, none)
abbrev mX1_lashRow : MD := (yX1_lashRow, cX1_lashRow, 7, (some .boolean))
abbrev mX1_standsOfTheSame : MD := (yX1_standsOfTheSame, cX1_standsOfTheSame, 3, (some .boolean))
abbrev mX1_above : MD := (yX1_above, cX1_above, 4, (some .int))
abbrev mX1_height : MD := (yX1_height, cX1_height, 1, (some .int))
abbrev mX1_load : MD := (yX1_load, cX1_load, 2, (some .int))
abbrev mX1_miles : MD := (yX1_miles, cX1_miles, 1, (some .int))
abbrev mX1_strength : MD := (yX1_strength, cX1_strength, 4, (some .int))
abbrev mX1_breaking : MD := (yX1_breaking, cX1_breaking, 2, (some .int))
abbrev mX1_dayGoes : MD := (yX1_dayGoes, cX1_dayGoes, 4, (some .int))
abbrev mX1_nothingBreaksIn : MD := (yX1_nothingBreaksIn, cX1_nothingBreaksIn, 3, (some .boolean))
abbrev mX2_init : MD := (yX2_init, cX2_init, 1, none)
abbrev mX2_becomeCalm : MD := (yX2_becomeCalm, cX2_becomeCalm, 1, none)
abbrev mX2_add : MD := (yX2_add, cX2_add, 4, none)
abbrev mX2_heart : MD := (yX2_heart, cX2_heart, 6, (some .int))
abbrev mX3_init : MD := (yX3_init, cX3_init, 2, none)
abbrev mX3_add : MD := (yX3_add, cX3_add, 3, (some .boolean))
abbrev mX3_clear : MD := (yX3_clear, cX3_clear, 1, (some .int))
abbrev mX3_copyFrom : MD := (yX3_copyFrom, cX3_copyFrom, 2, none)
abbrev mX4_init : MD := (yX4_init, cX4_init, 1, none)
abbrev mX4_become : MD := (yX4_become, cX4_become, 4, none)
abbrev mX4_cut : MD := (yX4_cut, cX4_cut, 3, (some .long))
abbrev mX5_init : MD := (yX5_init, cX5_init, 1, none)
abbrev mX5_add : MD := (yX5_add, cX5_add, 2, (some .boolean))
abbrev mX5_readInto : MD := (yX5_readInto, cX5_readInto, 3, (some .int))
abbrev mX5_readsClause : MD := (yX5_readsClause, cX5_readsClause, 3, (some .boolean))
abbrev mX5_readsAny : MD := (yX5_readsAny, cX5_readsAny, 3, (some .boolean))
abbrev mX5_readsAll : MD := (yX5_readsAll, cX5_readsAll, 3, (some .boolean))
abbrev mX5_readsOne : MD := (yX5_readsOne, cX5_readsOne, 5, (some .boolean))
abbrev mX5_takes : MD := (yX5_takes, cX5_takes, 2, (some .boolean))
abbrev mX5_takesWord : MD := (yX5_takesWord, cX5_takesWord, 4, (some .int))
abbrev mX5_takesNumber : MD := (yX5_takesNumber, cX5_takesNumber, 3, (some .int))
abbrev mX6_init : MD := (yX6_init, cX6_init, 3, none)
abbrev mX6_piece : MD := (yX6_piece, cX6_piece, 4, (some .int))
abbrev mX6_of : MD := (yX6_of, cX6_of, 4, (some .int))
abbrev mX6_set : MD := (yX6_set, cX6_set, 6, (some .int))
abbrev mX6_row : MD := (yX6_row, cX6_row, 5, (some .int))
abbrev mX6_hoist : MD := (yX6_hoist, cX6_hoist, 2, (some .int))
abbrev mX6_lower : MD := (yX6_lower, cX6_lower, 3, (some .int))
abbrev mX6_trim : MD := (yX6_trim, cX6_trim, 4, (some .int))
abbrev mX6_feed : MD := (yX6_feed, cX6_feed, 2, (some .int))
abbrev mX6_ocean : MD := (yX6_ocean, cX6_ocean, 2, (some .int))
abbrev mX6_told : MD := (yX6_told, cX6_told, 2, (some .int))
abbrev mX6_pass : MD := (yX6_pass, cX6_pass, 3, (some .int))
abbrev mX6_on : MD := (yX6_on, cX6_on, 6, (some .int))
abbrev mX6_first : MD := (yX6_first, cX6_first, 4, (some .int))
abbrev mX6_port : MD := (yX6_port, cX6_port, 3, (some .int))
abbrev mX6_spread : MD := (yX6_spread, cX6_spread, 5, (some .int))
abbrev mX6_fewest : MD := (yX6_fewest, cX6_fewest, 3, (some .int))
abbrev mX6_best : MD := (yX6_best, cX6_best, 4, (some .int))
abbrev mX6_longest : MD := (yX6_longest, cX6_longest, 4, (some .int))
abbrev mX6_bestRow : MD := (yX6_bestRow, cX6_bestRow, 6, (some .int))
abbrev mX6_worth : MD := (yX6_worth, cX6_worth, 4, (some .int))
abbrev mX6_see : MD := (yX6_see, cX6_see, 3, (some .int))
abbrev mX6_worn : MD := (yX6_worn, cX6_worn, 3, (some .int))
abbrev mX6_can : MD := (yX6_can, cX6_can, 3, (some .int))
abbrev mX6_fitting : MD := (yX6_fitting, cX6_fitting, 8, (some .int))
abbrev mX6_seenIsSo : MD := (yX6_seenIsSo, cX6_seenIsSo, 4, (some .boolean))
abbrev mX6_odds : MD := (yX6_odds, cX6_odds, 5, (some .long))
abbrev mX6_mean : MD := (yX6_mean, cX6_mean, 4, (some .long))
abbrev mX6_inLowestTerms : MD := (yX6_inLowestTerms, cX6_inLowestTerms, 4, (some .long))
abbrev mX6_plan : MD := (yX6_plan, cX6_plan, 3, (some .int))
abbrev mX6_ends : MD := (yX6_ends, cX6_ends, 3, (some .int))
abbrev mX6_followPlan : MD := (yX6_followPlan, cX6_followPlan, 3, none)
abbrev mX6_book : MD := (yX6_book, cX6_book, 3, (some .int))
abbrev mX6_looked : MD := (yX6_looked, cX6_looked, 3, (some .int))
abbrev mX6_judge : MD := (yX6_judge, cX6_judge, 5, (some .int))
abbrev mX6_image : MD := (yX6_image, cX6_image, 1, (some .int))
abbrev mX6_undo : MD := (yX6_undo, cX6_undo, 1, (some .int))
abbrev mX6_act : MD := (yX6_act, cX6_act, 4, (some .int))
abbrev mX6_trace : MD := (yX6_trace, cX6_trace, 2, (some .int))
abbrev mX6_taken : MD := (yX6_taken, cX6_taken, 6, (some .int))
abbrev mX6_count : MD := (yX6_count, cX6_count, 2, (some .int))
abbrev mX6_tape : MD := (yX6_tape, cX6_tape, 4, (some .int))
abbrev mX6_item : MD := (yX6_item, cX6_item, 6, (some .int))
abbrev mX6_read : MD := (yX6_read, cX6_read, 3, (some .long))
abbrev mX6_shift : MD := (yX6_shift, cX6_shift, 8, (some .int))
abbrev mX6_within : MD := (yX6_within, cX6_within, 3, (some .boolean))
abbrev mX7_init : MD := (yX7_init, cX7_init, 1, none)
abbrev mX7_in : MD := (yX7_in, cX7_in, 4, (some .boolean))
abbrev mX7_least0 : MD := (yX7_least0, cX7_least0, 2, (some .int))
abbrev mX7_least : MD := (yX7_least, cX7_least, 3, (some .int))
abbrev mX7_isPiece : MD := (yX7_isPiece, cX7_isPiece, 2, (some .boolean))
abbrev mX7_isFeet : MD := (yX7_isFeet, cX7_isFeet, 2, (some .boolean))
abbrev mX7_isDays : MD := (yX7_isDays, cX7_isDays, 2, (some .boolean))
abbrev mX7_isTrim : MD := (yX7_isTrim, cX7_isTrim, 2, (some .boolean))
abbrev mX7_piece : MD := (yX7_piece, cX7_piece, 5, (some .int))
abbrev mX7_set : MD := (yX7_set, cX7_set, 5, (some .int))
abbrev mX7_row : MD := (yX7_row, cX7_row, 5, (some .int))
abbrev mX7_placeOf : MD := (yX7_placeOf, cX7_placeOf, 3, (some .int))
abbrev mX7_hoists : MD := (yX7_hoists, cX7_hoists, 2, none)
abbrev mX7_hoist : MD := (yX7_hoist, cX7_hoist, 2, (some .int))
abbrev mX7_lower : MD := (yX7_lower, cX7_lower, 2, (some .int))
abbrev mX7_trim : MD := (yX7_trim, cX7_trim, 4, (some .int))
abbrev mX7_feed : MD := (yX7_feed, cX7_feed, 2, (some .int))
abbrev mX7_next : MD := (yX7_next, cX7_next, 1, (some .int))
abbrev mX7_second : MD := (yX7_second, cX7_second, 1, (some .int))
abbrev mX7_takes : MD := (yX7_takes, cX7_takes, 2, (some .boolean))
abbrev mX7_takesWord : MD := (yX7_takesWord, cX7_takesWord, 4, (some .boolean))
abbrev mX7_isDigit : MD := (yX7_isDigit, cX7_isDigit, 1, (some .boolean))
abbrev mX7_takesNumber : MD := (yX7_takesNumber, cX7_takesNumber, 2, (some .boolean))
abbrev mX7_emits : MD := (yX7_emits, cX7_emits, 2, none)
abbrev mX7_whole : MD := (yX7_whole, cX7_whole, 1, none)
abbrev mX7_settle : MD := (yX7_settle, cX7_settle, 2, none)
abbrev mX7_place : MD := (yX7_place, cX7_place, 2, (some .int))
abbrev mX7_takesTest : MD := (yX7_takesTest, cX7_takesTest, 3, (some .boolean))
abbrev mX7_takesE : MD := (yX7_takesE, cX7_takesE, 4, (some .boolean))
abbrev mX7_takesHead : MD := (yX7_takesHead, cX7_takesHead, 2, (some .boolean))
abbrev mX7_takesClause : MD := (yX7_takesClause, cX7_takesClause, 2, (some .boolean))
abbrev mX7_goesText : MD := (yX7_goesText, cX7_goesText, 3, (some .boolean))
abbrev mX7_ocean : MD := (yX7_ocean, cX7_ocean, 2, (some .int))
abbrev mX7_begin : MD := (yX7_begin, cX7_begin, 1, (some .int))
abbrev mX7_behind : MD := (yX7_behind, cX7_behind, 1, (some .int))
abbrev mX7_lastOf : MD := (yX7_lastOf, cX7_lastOf, 5, (some .int))
abbrev mX7_factOf : MD := (yX7_factOf, cX7_factOf, 3, (some .int))
abbrev mX7_holds : MD := (yX7_holds, cX7_holds, 8, (some .boolean))
abbrev mX7_heart : MD := (yX7_heart, cX7_heart, 4, (some .int))
abbrev mX7_strength : MD := (yX7_strength, cX7_strength, 3, (some .int))
abbrev mX7_above : MD := (yX7_above, cX7_above, 4, (some .int))
abbrev mX7_height : MD := (yX7_height, cX7_height, 1, (some .int))
abbrev mX7_load : MD := (yX7_load, cX7_load, 2, (some .int))
abbrev mX7_milesNow : MD := (yX7_milesNow, cX7_milesNow, 1, (some .int))
abbrev mX7_of : MD := (yX7_of, cX7_of, 4, (some .int))
abbrev mX7_told : MD := (yX7_told, cX7_told, 2, (some .int))
abbrev mX7_breaksAt : MD := (yX7_breaksAt, cX7_breaksAt, 2, (some .int))
abbrev mX7_goWear : MD := (yX7_goWear, cX7_goWear, 2, none)
abbrev mX7_goDay : MD := (yX7_goDay, cX7_goDay, 3, (some .int))
abbrev mX7_goDays : MD := (yX7_goDays, cX7_goDays, 3, none)
abbrev mX7_pass : MD := (yX7_pass, cX7_pass, 2, (some .int))
abbrev mX7_save : MD := (yX7_save, cX7_save, 2, none)
abbrev mX7_putBack : MD := (yX7_putBack, cX7_putBack, 2, none)
abbrev mX7_on : MD := (yX7_on, cX7_on, 4, (some .int))
abbrev mX7_firstThen : MD := (yX7_firstThen, cX7_firstThen, 5, (some .int))
abbrev mX7_first : MD := (yX7_first, cX7_first, 3, (some .int))
abbrev mX7_port : MD := (yX7_port, cX7_port, 3, (some .int))
abbrev mX7_wentThen : MD := (yX7_wentThen, cX7_wentThen, 3, (some .int))
abbrev mX7_spread : MD := (yX7_spread, cX7_spread, 5, (some .int))
abbrev mX7_fewest : MD := (yX7_fewest, cX7_fewest, 3, (some .int))
abbrev mX7_tries : MD := (yX7_tries, cX7_tries, 8, none)
abbrev mX7_layBest : MD := (yX7_layBest, cX7_layBest, 5, none)
abbrev mX7_best : MD := (yX7_best, cX7_best, 3, (some .int))
abbrev mX7_layOrder : MD := (yX7_layOrder, cX7_layOrder, 6, (some .boolean))
abbrev mX7_longest : MD := (yX7_longest, cX7_longest, 9, (some .int))
abbrev mX7_see : MD := (yX7_see, cX7_see, 3, (some .int))
abbrev mX7_isSeen : MD := (yX7_isSeen, cX7_isSeen, 3, (some .boolean))
abbrev mX7_worn : MD := (yX7_worn, cX7_worn, 7, (some .int))
abbrev mX7_can : MD := (yX7_can, cX7_can, 7, (some .int))
abbrev mX7_divisor : MD := (yX7_divisor, cX7_divisor, 6, (some .int))
abbrev mX7_lowest : MD := (yX7_lowest, cX7_lowest, 5, (some .long))
abbrev mX7_odds : MD := (yX7_odds, cX7_odds, 6, (some .long))
abbrev mX7_mean : MD := (yX7_mean, cX7_mean, 4, (some .long))
abbrev mX7_plan : MD := (yX7_plan, cX7_plan, 3, (some .int))
abbrev mX7_goPlan : MD := (yX7_goPlan, cX7_goPlan, 3, none)
abbrev mX7_ends : MD := (yX7_ends, cX7_ends, 3, (some .int))
abbrev mX7_book : MD := (yX7_book, cX7_book, 3, (some .int))
abbrev mX7_looked : MD := (yX7_looked, cX7_looked, 2, (some .int))
abbrev mX7_judge : MD := (yX7_judge, cX7_judge, 4, (some .int))
abbrev mX7_image : MD := (yX7_image, cX7_image, 2, (some .int))
abbrev mX7_undo : MD := (yX7_undo, cX7_undo, 2, (some .int))
abbrev mX7_body : MD := (yX7_body, cX7_body, 2, none)
abbrev mX7_pieceBends : MD := (yX7_pieceBends, cX7_pieceBends, 3, (some .int))
abbrev mX7_bendsAct : MD := (yX7_bendsAct, cX7_bendsAct, 3, (some .int))
abbrev mX7_pieceHolds : MD := (yX7_pieceHolds, cX7_pieceHolds, 3, (some .int))
abbrev mX7_oarHolds : MD := (yX7_oarHolds, cX7_oarHolds, 3, (some .int))
abbrev mX7_holdsAct : MD := (yX7_holdsAct, cX7_holdsAct, 4, (some .int))
abbrev mX7_pieceTells : MD := (yX7_pieceTells, cX7_pieceTells, 3, (some .int))
abbrev mX7_tellsAct : MD := (yX7_tellsAct, cX7_tellsAct, 4, (some .int))
abbrev mX7_act : MD := (yX7_act, cX7_act, 4, (some .int))
abbrev mX7_trace : MD := (yX7_trace, cX7_trace, 2, (some .int))
abbrev mX7_taken : MD := (yX7_taken, cX7_taken, 4, (some .int))
abbrev mX7_count : MD := (yX7_count, cX7_count, 2, (some .int))
abbrev mX7_isTape : MD := (yX7_isTape, cX7_isTape, 2, (some .boolean))
abbrev mX7_tape : MD := (yX7_tape, cX7_tape, 5, (some .int))
abbrev mX7_narrow : MD := (yX7_narrow, cX7_narrow, 4, (some .long))
abbrev mX7_item : MD := (yX7_item, cX7_item, 5, (some .int))
abbrev mX7_read : MD := (yX7_read, cX7_read, 3, (some .long))
abbrev mX7_shift : MD := (yX7_shift, cX7_shift, 7, (some .int))
abbrev mJ11_isValidCodePoint_9a6ad : MD := (yJ11_isValidCodePoint_9a6ad, cJ11_isValidCodePoint_9a6ad, 2, (some .boolean))
abbrev mJ11_highSurrogate_5068e : MD := (yJ11_highSurrogate_5068e, cJ11_highSurrogate_5068e, 1, (some .char))
abbrev mJ11_lowSurrogate_5068e : MD := (yJ11_lowSurrogate_5068e, cJ11_lowSurrogate_5068e, 1, (some .char))
abbrev mJ9_max_7cf53 : MD := (yJ9_max_7cf53, cJ9_max_7cf53, 2, (some .int))
abbrev mJ9_min_7cf53 : MD := (yJ9_min_7cf53, cJ9_min_7cf53, 2, (some .int))
abbrev mJ0_length_8abf5 : MD := (yJ0_length_8abf5, cJ0_length_8abf5, 1, (some .int))
abbrev mJ0_charAt_5068e : MD := (yJ0_charAt_5068e, cJ0_charAt_5068e, 2, (some .char))
abbrev mJ0_indexOf_0f7a4 : MD := (yJ0_indexOf_0f7a4, cJ0_indexOf_0f7a4, 2, (some .int))
abbrev mJ0_indexOf_7cf53 : MD := (yJ0_indexOf_7cf53, cJ0_indexOf_7cf53, 3, (some .int))
abbrev mJ0_coder_7d493 : MD := (yJ0_coder_7d493, cJ0_coder_7d493, 1, (some .byte))
abbrev mJ0_isLatin1_aae02 : MD := (yJ0_isLatin1_aae02, cJ0_isLatin1_aae02, 1, (some .boolean))
abbrev mJ0_checkIndex_df160 : MD := (yJ0_checkIndex_df160, cJ0_checkIndex_df160, 2, none)
abbrev mJ0_checkBoundsBeginEnd_23922 : MD := (yJ0_checkBoundsBeginEnd_23922, cJ0_checkBoundsBeginEnd_23922, 3, none)
abbrev mJ1_charAt_3b067 : MD := (yJ1_charAt_3b067, cJ1_charAt_3b067, 2, (some .char))
abbrev mJ1_canEncode_9a6ad : MD := (yJ1_canEncode_9a6ad, cJ1_canEncode_9a6ad, 1, (some .boolean))
abbrev mJ1_indexOf_4cfef : MD := (yJ1_indexOf_4cfef, cJ1_indexOf_4cfef, 4, (some .int))
abbrev mJ1_indexOfChar_4cfef : MD := (yJ1_indexOfChar_4cfef, cJ1_indexOfChar_4cfef, 6, (some .int))
abbrev mJ2_getChar_3b067 : MD := (yJ2_getChar_3b067, cJ2_getChar_3b067, 2, (some .char))
abbrev mJ2_length_9d52b : MD := (yJ2_length_9d52b, cJ2_length_9d52b, 1, (some .int))
abbrev mJ2_indexOf_4cfef : MD := (yJ2_indexOf_4cfef, cJ2_indexOf_4cfef, 4, (some .int))
abbrev mJ2_indexOfChar_4cfef : MD := (yJ2_indexOfChar_4cfef, cJ2_indexOfChar_4cfef, 4, (some .int))
abbrev mJ2_indexOfCharUnsafe_4cfef : MD := (yJ2_indexOfCharUnsafe_4cfef, cJ2_indexOfCharUnsafe_4cfef, 5, (some .int))
abbrev mJ2_indexOfSupplementary_4cfef : MD := (yJ2_indexOfSupplementary_4cfef, cJ2_indexOfSupplementary_4cfef, 7, (some .int))
abbrev mJ2_charAt_3b067 : MD := (yJ2_charAt_3b067, cJ2_charAt_3b067, 2, (some .char))
abbrev mJ2_checkIndex_2214a : MD := (yJ2_checkIndex_2214a, cJ2_checkIndex_2214a, 2, none)
abbrev mJ2_checkBoundsBeginEnd_d044e : MD := (yJ2_checkBoundsBeginEnd_d044e, cJ2_checkBoundsBeginEnd_d044e, 3, none)
abbrev mJ3_checkIndex_8e157 : MD := (yJ3_checkIndex_8e157, cJ3_checkIndex_8e157, 3, (some .int))
abbrev mJ3_checkFromToIndex_8c36e : MD := (yJ3_checkFromToIndex_8c36e, cJ3_checkFromToIndex_8c36e, 4, (some .int))
theorem fl_X0_11 : FL RX0 11 0 0 := ⟨RX0, TX0, 5, rfl, by decide, rfl, tb1 178 (by decide +kernel) rfl, in_X0⟩
theorem fl_X0_15 : FL RX0 15 0 2 := ⟨RX0, TX0, 5, rfl, by decide, rfl, tb1 182 (by decide +kernel) rfl, in_X0⟩
theorem fw_X0_15 : FW RX0 15 0 2 .int := ⟨RX0, TX0, 5, rfl, by decide, rfl, tb1 182 (by decide +kernel) rfl, in_X0, ⟨tyX0, tyX0_ok⟩, nmX0, rfl, by decide +kernel⟩
theorem fl_X0_19 : FL RX0 19 0 3 := ⟨RX0, TX0, 5, rfl, by decide, rfl, tb1 183 (by decide +kernel) rfl, in_X0⟩
theorem fw_X0_19 : FW RX0 19 0 3 .int := ⟨RX0, TX0, 5, rfl, by decide, rfl, tb1 183 (by decide +kernel) rfl, in_X0, ⟨tyX0, tyX0_ok⟩, nmX0, rfl, by decide +kernel⟩
theorem fl_X0_22 : FL RX0 22 0 4 := ⟨RX0, TX0, 5, rfl, by decide, rfl, tb1 184 (by decide +kernel) rfl, in_X0⟩
theorem fw_X0_22 : FW RX0 22 0 4 .int := ⟨RX0, TX0, 5, rfl, by decide, rfl, tb1 184 (by decide +kernel) rfl, in_X0, ⟨tyX0, tyX0_ok⟩, nmX0, rfl, by decide +kernel⟩
theorem fl_X0_25 : FL RX0 25 0 1 := ⟨RX0, TX0, 5, rfl, by decide, rfl, tb1 180 (by decide +kernel) rfl, in_X0⟩
theorem fw_X0_25 : FW RX0 25 0 1 .int := ⟨RX0, TX0, 5, rfl, by decide, rfl, tb1 180 (by decide +kernel) rfl, in_X0, ⟨tyX0, tyX0_ok⟩, nmX0, rfl, by decide +kernel⟩
theorem fl_X1_9 : FL RX1 9 1 0 := ⟨RX1, TX1, 14, rfl, by decide, rfl, tb1 69 (by decide +kernel) rfl, in_X1⟩
theorem fl_X1_15 : FL RX1 15 1 1 := ⟨RX1, TX1, 14, rfl, by decide, rfl, tb1 72 (by decide +kernel) rfl, in_X1⟩
theorem fl_X1_18 : FL RX1 18 1 2 := ⟨RX1, TX1, 14, rfl, by decide, rfl, tb1 75 (by decide +kernel) rfl, in_X1⟩
theorem fl_X1_21 : FL RX1 21 1 3 := ⟨RX1, TX1, 14, rfl, by decide, rfl, tb1 78 (by decide +kernel) rfl, in_X1⟩
theorem fl_X1_24 : FL RX1 24 1 4 := ⟨RX1, TX1, 14, rfl, by decide, rfl, tb1 81 (by decide +kernel) rfl, in_X1⟩
theorem fl_X1_27 : FL RX1 27 1 5 := ⟨RX1, TX1, 14, rfl, by decide, rfl, tb1 83 (by decide +kernel) rfl, in_X1⟩
theorem fl_X1_30 : FL RX1 30 1 6 := ⟨RX1, TX1, 14, rfl, by decide, rfl, tb1 85 (by decide +kernel) rfl, in_X1⟩
theorem fl_X1_33 : FL RX1 33 1 13 := ⟨RX1, TX1, 14, rfl, by decide, rfl, tb1 100 (by decide +kernel) rfl, in_X1⟩
theorem fw_X1_33 : FW RX1 33 1 13 (.object "MastLeft$Ocean") := ⟨RX1, TX1, 14, rfl, by decide, rfl, tb1 100 (by decide +kernel) rfl, in_X1, ⟨tyX1, tyX1_ok⟩, nmX1, rfl, by decide +kernel⟩
theorem fl_X1_37 : FL RX1 37 1 9 := ⟨RX1, TX1, 14, rfl, by decide, rfl, tb1 91 (by decide +kernel) rfl, in_X1⟩
theorem fw_X1_37 : FW RX1 37 1 9 .int := ⟨RX1, TX1, 14, rfl, by decide, rfl, tb1 91 (by decide +kernel) rfl, in_X1, ⟨tyX1, tyX1_ok⟩, nmX1, rfl, by decide +kernel⟩
theorem fl_X1_47 : FL RX1 47 1 7 := ⟨RX1, TX1, 14, rfl, by decide, rfl, tb1 88 (by decide +kernel) rfl, in_X1⟩
theorem fw_X1_47 : FW RX1 47 1 7 .int := ⟨RX1, TX1, 14, rfl, by decide, rfl, tb1 88 (by decide +kernel) rfl, in_X1, ⟨tyX1, tyX1_ok⟩, nmX1, rfl, by decide +kernel⟩
theorem fl_X1_50 : FL RX1 50 1 8 := ⟨RX1, TX1, 14, rfl, by decide, rfl, tb1 89 (by decide +kernel) rfl, in_X1⟩
theorem fw_X1_50 : FW RX1 50 1 8 .int := ⟨RX1, TX1, 14, rfl, by decide, rfl, tb1 89 (by decide +kernel) rfl, in_X1, ⟨tyX1, tyX1_ok⟩, nmX1, rfl, by decide +kernel⟩
theorem fl_X1_53 : FL RX1 53 1 10 := ⟨RX1, TX1, 14, rfl, by decide, rfl, tb1 93 (by decide +kernel) rfl, in_X1⟩
theorem fw_X1_53 : FW RX1 53 1 10 .int := ⟨RX1, TX1, 14, rfl, by decide, rfl, tb1 93 (by decide +kernel) rfl, in_X1, ⟨tyX1, tyX1_ok⟩, nmX1, rfl, by decide +kernel⟩
theorem fl_X1_56 : FL RX1 56 1 11 := ⟨RX1, TX1, 14, rfl, by decide, rfl, tb1 95 (by decide +kernel) rfl, in_X1⟩
theorem fw_X1_56 : FW RX1 56 1 11 .int := ⟨RX1, TX1, 14, rfl, by decide, rfl, tb1 95 (by decide +kernel) rfl, in_X1, ⟨tyX1, tyX1_ok⟩, nmX1, rfl, by decide +kernel⟩
theorem fl_X1_59 : FL RX1 59 1 12 := ⟨RX1, TX1, 14, rfl, by decide, rfl, tb1 97 (by decide +kernel) rfl, in_X1⟩
theorem fw_X1_59 : FW RX1 59 1 12 .int := ⟨RX1, TX1, 14, rfl, by decide, rfl, tb1 97 (by decide +kernel) rfl, in_X1, ⟨tyX1, tyX1_ok⟩, nmX1, rfl, by decide +kernel⟩
theorem fl_X1_70 : FL RX1 70 2 6 := ⟨RX2, TX2, 7, rfl, by decide, rfl, tb1 45 (by decide +kernel) rfl, in_X2⟩
theorem fl_X1_78 : FL RX1 78 2 5 := ⟨RX2, TX2, 7, rfl, by decide, rfl, tb1 42 (by decide +kernel) rfl, in_X2⟩
theorem fl_X2_9 : FL RX2 9 2 0 := ⟨RX2, TX2, 7, rfl, by decide, rfl, tb1 34 (by decide +kernel) rfl, in_X2⟩
theorem fl_X2_13 : FL RX2 13 2 1 := ⟨RX2, TX2, 7, rfl, by decide, rfl, tb1 35 (by decide +kernel) rfl, in_X2⟩
theorem fl_X2_16 : FL RX2 16 2 2 := ⟨RX2, TX2, 7, rfl, by decide, rfl, tb1 36 (by decide +kernel) rfl, in_X2⟩
theorem fl_X2_19 : FL RX2 19 2 3 := ⟨RX2, TX2, 7, rfl, by decide, rfl, tb1 37 (by decide +kernel) rfl, in_X2⟩
theorem fl_X2_25 : FL RX2 25 2 4 := ⟨RX2, TX2, 7, rfl, by decide, rfl, tb1 38 (by decide +kernel) rfl, in_X2⟩
theorem fw_X2_25 : FW RX2 25 2 4 .int := ⟨RX2, TX2, 7, rfl, by decide, rfl, tb1 38 (by decide +kernel) rfl, in_X2, ⟨tyX2, tyX2_ok⟩, nmX2, rfl, by decide +kernel⟩
theorem fw_X2_29 : FW RX2 29 2 5 .int := ⟨RX2, TX2, 7, rfl, by decide, rfl, tb1 39 (by decide +kernel) rfl, in_X2, ⟨tyX2, tyX2_ok⟩, nmX2, rfl, by decide +kernel⟩
theorem fw_X2_32 : FW RX2 32 2 6 .int := ⟨RX2, TX2, 7, rfl, by decide, rfl, tb1 43 (by decide +kernel) rfl, in_X2, ⟨tyX2, tyX2_ok⟩, nmX2, rfl, by decide +kernel⟩
theorem fl_X2_35 : FL RX2 35 1 0 := ⟨RX1, TX1, 14, rfl, by decide, rfl, tb1 71 (by decide +kernel) rfl, in_X1⟩
theorem fl_X2_40 : FL RX2 40 1 1 := ⟨RX1, TX1, 14, rfl, by decide, rfl, tb1 74 (by decide +kernel) rfl, in_X1⟩
theorem fl_X2_43 : FL RX2 43 1 2 := ⟨RX1, TX1, 14, rfl, by decide, rfl, tb1 77 (by decide +kernel) rfl, in_X1⟩
theorem fl_X2_46 : FL RX2 46 1 3 := ⟨RX1, TX1, 14, rfl, by decide, rfl, tb1 80 (by decide +kernel) rfl, in_X1⟩
theorem fl_X2_49 : FL RX2 49 1 12 := ⟨RX1, TX1, 14, rfl, by decide, rfl, tb1 98 (by decide +kernel) rfl, in_X1⟩
theorem fl_X3_7 : FL RX3 7 3 0 := ⟨RX3, TX3, 3, rfl, by decide, rfl, tb1 137 (by decide +kernel) rfl, in_X3⟩
theorem fl_X3_13 : FL RX3 13 3 1 := ⟨RX3, TX3, 3, rfl, by decide, rfl, tb1 139 (by decide +kernel) rfl, in_X3⟩
theorem fl_X3_16 : FL RX3 16 3 2 := ⟨RX3, TX3, 3, rfl, by decide, rfl, tb1 141 (by decide +kernel) rfl, in_X3⟩
theorem fw_X3_16 : FW RX3 16 3 2 .int := ⟨RX3, TX3, 3, rfl, by decide, rfl, tb1 141 (by decide +kernel) rfl, in_X3, ⟨tyX3, tyX3_ok⟩, nmX3, rfl, by decide +kernel⟩
theorem fl_X4_9 : FL RX4 9 4 0 := ⟨RX4, TX4, 3, rfl, by decide, rfl, tb1 203 (by decide +kernel) rfl, in_X4⟩
theorem fl_X4_13 : FL RX4 13 4 1 := ⟨RX4, TX4, 3, rfl, by decide, rfl, tb1 205 (by decide +kernel) rfl, in_X4⟩
theorem fw_X4_13 : FW RX4 13 4 1 .int := ⟨RX4, TX4, 3, rfl, by decide, rfl, tb1 205 (by decide +kernel) rfl, in_X4, ⟨tyX4, tyX4_ok⟩, nmX4, rfl, by decide +kernel⟩
theorem fw_X4_17 : FW RX4 17 4 2 .int := ⟨RX4, TX4, 3, rfl, by decide, rfl, tb1 207 (by decide +kernel) rfl, in_X4, ⟨tyX4, tyX4_ok⟩, nmX4, rfl, by decide +kernel⟩
theorem fl_X5_9 : FL RX5 9 5 0 := ⟨RX5, TX5, 4, rfl, by decide, rfl, tb1 157 (by decide +kernel) rfl, in_X5⟩
theorem fl_X5_13 : FL RX5 13 5 3 := ⟨RX5, TX5, 4, rfl, by decide, rfl, tb1 160 (by decide +kernel) rfl, in_X5⟩
theorem fw_X5_13 : FW RX5 13 5 3 .int := ⟨RX5, TX5, 4, rfl, by decide, rfl, tb1 160 (by decide +kernel) rfl, in_X5, ⟨tyX5, tyX5_ok⟩, nmX5, rfl, by decide +kernel⟩
theorem fl_X5_17 : FL RX5 17 5 1 := ⟨RX5, TX5, 4, rfl, by decide, rfl, tb1 158 (by decide +kernel) rfl, in_X5⟩
theorem fw_X5_17 : FW RX5 17 5 1 (.object "MastLeft$Ocean") := ⟨RX5, TX5, 4, rfl, by decide, rfl, tb1 158 (by decide +kernel) rfl, in_X5, ⟨tyX5, tyX5_ok⟩, nmX5, rfl, by decide +kernel⟩
theorem fl_X5_26 : FL RX5 26 5 2 := ⟨RX5, TX5, 4, rfl, by decide, rfl, tb1 159 (by decide +kernel) rfl, in_X5⟩
theorem fw_X5_26 : FW RX5 26 5 2 .int := ⟨RX5, TX5, 4, rfl, by decide, rfl, tb1 159 (by decide +kernel) rfl, in_X5, ⟨tyX5, tyX5_ok⟩, nmX5, rfl, by decide +kernel⟩
theorem fw_X5_44 : FW RX5 44 2 5 .int := ⟨RX2, TX2, 7, rfl, by decide, rfl, tb1 40 (by decide +kernel) rfl, in_X2, ⟨tyX2, tyX2_ok⟩, nmX2, rfl, by decide +kernel⟩
theorem fw_X5_47 : FW RX5 47 2 6 .int := ⟨RX2, TX2, 7, rfl, by decide, rfl, tb1 44 (by decide +kernel) rfl, in_X2, ⟨tyX2, tyX2_ok⟩, nmX2, rfl, by decide +kernel⟩
theorem fl_X6_17 : FL RX6 17 6 0 := ⟨RX6, TX6, 15, rfl, by decide, rfl, tb1 217 (by decide +kernel) rfl, in_X6⟩
theorem fl_X6_23 : FL RX6 23 6 1 := ⟨RX6, TX6, 15, rfl, by decide, rfl, tb1 218 (by decide +kernel) rfl, in_X6⟩
theorem fl_X6_26 : FL RX6 26 6 2 := ⟨RX6, TX6, 15, rfl, by decide, rfl, tb1 219 (by decide +kernel) rfl, in_X6⟩
theorem fl_X6_34 : FL RX6 34 6 3 := ⟨RX6, TX6, 15, rfl, by decide, rfl, tb1 220 (by decide +kernel) rfl, in_X6⟩
theorem fl_X6_38 : FL RX6 38 6 4 := ⟨RX6, TX6, 15, rfl, by decide, rfl, tb1 221 (by decide +kernel) rfl, in_X6⟩
theorem fl_X6_41 : FL RX6 41 6 5 := ⟨RX6, TX6, 15, rfl, by decide, rfl, tb1 222 (by decide +kernel) rfl, in_X6⟩
theorem fl_X6_44 : FL RX6 44 6 6 := ⟨RX6, TX6, 15, rfl, by decide, rfl, tb1 223 (by decide +kernel) rfl, in_X6⟩
theorem fl_X6_47 : FL RX6 47 6 7 := ⟨RX6, TX6, 15, rfl, by decide, rfl, tb1 224 (by decide +kernel) rfl, in_X6⟩
theorem fl_X6_50 : FL RX6 50 6 8 := ⟨RX6, TX6, 15, rfl, by decide, rfl, tb1 225 (by decide +kernel) rfl, in_X6⟩
theorem fl_X6_53 : FL RX6 53 6 10 := ⟨RX6, TX6, 15, rfl, by decide, rfl, tb1 227 (by decide +kernel) rfl, in_X6⟩
theorem fl_X6_60 : FL RX6 60 6 12 := ⟨RX6, TX6, 15, rfl, by decide, rfl, tb1 229 (by decide +kernel) rfl, in_X6⟩
theorem fl_X6_67 : FL RX6 67 6 13 := ⟨RX6, TX6, 15, rfl, by decide, rfl, tb1 230 (by decide +kernel) rfl, in_X6⟩
theorem fl_X6_73 : FL RX6 73 6 14 := ⟨RX6, TX6, 15, rfl, by decide, rfl, tb1 231 (by decide +kernel) rfl, in_X6⟩
theorem fl_X6_82 : FL RX6 82 1 7 := ⟨RX1, TX1, 14, rfl, by decide, rfl, tb1 87 (by decide +kernel) rfl, in_X1⟩
theorem fl_X6_94 : FL RX6 94 1 0 := ⟨RX1, TX1, 14, rfl, by decide, rfl, tb1 70 (by decide +kernel) rfl, in_X1⟩
theorem fl_X6_98 : FL RX6 98 1 1 := ⟨RX1, TX1, 14, rfl, by decide, rfl, tb1 73 (by decide +kernel) rfl, in_X1⟩
theorem fl_X6_101 : FL RX6 101 1 2 := ⟨RX1, TX1, 14, rfl, by decide, rfl, tb1 76 (by decide +kernel) rfl, in_X1⟩
theorem fl_X6_104 : FL RX6 104 1 3 := ⟨RX1, TX1, 14, rfl, by decide, rfl, tb1 79 (by decide +kernel) rfl, in_X1⟩
theorem fl_X6_107 : FL RX6 107 1 4 := ⟨RX1, TX1, 14, rfl, by decide, rfl, tb1 82 (by decide +kernel) rfl, in_X1⟩
theorem fl_X6_110 : FL RX6 110 1 13 := ⟨RX1, TX1, 14, rfl, by decide, rfl, tb1 101 (by decide +kernel) rfl, in_X1⟩
theorem fw_X6_110 : FW RX6 110 1 13 (.object "MastLeft$Ocean") := ⟨RX1, TX1, 14, rfl, by decide, rfl, tb1 101 (by decide +kernel) rfl, in_X1, ⟨tyX1, tyX1_ok⟩, nmX1, rfl, by decide +kernel⟩
theorem fl_X6_131 : FL RX6 131 1 5 := ⟨RX1, TX1, 14, rfl, by decide, rfl, tb1 84 (by decide +kernel) rfl, in_X1⟩
theorem fl_X6_134 : FL RX6 134 1 8 := ⟨RX1, TX1, 14, rfl, by decide, rfl, tb1 90 (by decide +kernel) rfl, in_X1⟩
theorem fw_X6_134 : FW RX6 134 1 8 .int := ⟨RX1, TX1, 14, rfl, by decide, rfl, tb1 90 (by decide +kernel) rfl, in_X1, ⟨tyX1, tyX1_ok⟩, nmX1, rfl, by decide +kernel⟩
theorem fl_X6_140 : FL RX6 140 1 9 := ⟨RX1, TX1, 14, rfl, by decide, rfl, tb1 92 (by decide +kernel) rfl, in_X1⟩
theorem fw_X6_140 : FW RX6 140 1 9 .int := ⟨RX1, TX1, 14, rfl, by decide, rfl, tb1 92 (by decide +kernel) rfl, in_X1, ⟨tyX1, tyX1_ok⟩, nmX1, rfl, by decide +kernel⟩
theorem fl_X6_143 : FL RX6 143 1 10 := ⟨RX1, TX1, 14, rfl, by decide, rfl, tb1 94 (by decide +kernel) rfl, in_X1⟩
theorem fw_X6_143 : FW RX6 143 1 10 .int := ⟨RX1, TX1, 14, rfl, by decide, rfl, tb1 94 (by decide +kernel) rfl, in_X1, ⟨tyX1, tyX1_ok⟩, nmX1, rfl, by decide +kernel⟩
theorem fl_X6_150 : FL RX6 150 5 3 := ⟨RX5, TX5, 4, rfl, by decide, rfl, tb1 161 (by decide +kernel) rfl, in_X5⟩
theorem fw_X6_150 : FW RX6 150 5 3 .int := ⟨RX5, TX5, 4, rfl, by decide, rfl, tb1 161 (by decide +kernel) rfl, in_X5, ⟨tyX5, tyX5_ok⟩, nmX5, rfl, by decide +kernel⟩
theorem fl_X6_153 : FL RX6 153 6 11 := ⟨RX6, TX6, 15, rfl, by decide, rfl, tb1 228 (by decide +kernel) rfl, in_X6⟩
theorem fw_X6_153 : FW RX6 153 6 11 .int := ⟨RX6, TX6, 15, rfl, by decide, rfl, tb1 228 (by decide +kernel) rfl, in_X6, ⟨tyX6, tyX6_ok⟩, nmX6, rfl, by decide +kernel⟩
theorem fl_X6_160 : FL RX6 160 1 12 := ⟨RX1, TX1, 14, rfl, by decide, rfl, tb1 99 (by decide +kernel) rfl, in_X1⟩
theorem fl_X6_163 : FL RX6 163 2 5 := ⟨RX2, TX2, 7, rfl, by decide, rfl, tb1 41 (by decide +kernel) rfl, in_X2⟩
theorem fl_X6_166 : FL RX6 166 2 6 := ⟨RX2, TX2, 7, rfl, by decide, rfl, tb1 46 (by decide +kernel) rfl, in_X2⟩
theorem fl_X6_169 : FL RX6 169 1 11 := ⟨RX1, TX1, 14, rfl, by decide, rfl, tb1 96 (by decide +kernel) rfl, in_X1⟩
theorem fl_X6_179 : FL RX6 179 1 6 := ⟨RX1, TX1, 14, rfl, by decide, rfl, tb1 86 (by decide +kernel) rfl, in_X1⟩
theorem fl_X6_215 : FL RX6 215 3 2 := ⟨RX3, TX3, 3, rfl, by decide, rfl, tb1 142 (by decide +kernel) rfl, in_X3⟩
theorem fl_X6_224 : FL RX6 224 3 1 := ⟨RX3, TX3, 3, rfl, by decide, rfl, tb1 140 (by decide +kernel) rfl, in_X3⟩
theorem fl_X6_232 : FL RX6 232 3 0 := ⟨RX3, TX3, 3, rfl, by decide, rfl, tb1 138 (by decide +kernel) rfl, in_X3⟩
theorem fl_X6_245 : FL RX6 245 4 1 := ⟨RX4, TX4, 3, rfl, by decide, rfl, tb1 206 (by decide +kernel) rfl, in_X4⟩
theorem fl_X6_248 : FL RX6 248 4 2 := ⟨RX4, TX4, 3, rfl, by decide, rfl, tb1 208 (by decide +kernel) rfl, in_X4⟩
theorem fl_X6_249 : FL RX6 249 4 0 := ⟨RX4, TX4, 3, rfl, by decide, rfl, tb1 204 (by decide +kernel) rfl, in_X4⟩
theorem fl_X6_259 : FL RX6 259 6 9 := ⟨RX6, TX6, 15, rfl, by decide, rfl, tb1 226 (by decide +kernel) rfl, in_X6⟩
theorem fw_X6_259 : FW RX6 259 6 9 .boolean := ⟨RX6, TX6, 15, rfl, by decide, rfl, tb1 226 (by decide +kernel) rfl, in_X6, ⟨tyX6, tyX6_ok⟩, nmX6, rfl, by decide +kernel⟩
theorem fl_X6_263 : FL RX6 263 0 1 := ⟨RX0, TX0, 5, rfl, by decide, rfl, tb1 181 (by decide +kernel) rfl, in_X0⟩
theorem fw_X6_263 : FW RX6 263 0 1 .int := ⟨RX0, TX0, 5, rfl, by decide, rfl, tb1 181 (by decide +kernel) rfl, in_X0, ⟨tyX0, tyX0_ok⟩, nmX0, rfl, by decide +kernel⟩
theorem fl_X6_270 : FL RX6 270 0 0 := ⟨RX0, TX0, 5, rfl, by decide, rfl, tb1 179 (by decide +kernel) rfl, in_X0⟩
theorem fl_X7_7 : FL RX7 7 7 0 := ⟨RX7, TX7, 87, rfl, by decide, rfl, tb4 3 (by decide +kernel) rfl, in_X7⟩
theorem fw_X7_7 : FW RX7 7 7 0 .int := ⟨RX7, TX7, 87, rfl, by decide, rfl, tb4 3 (by decide +kernel) rfl, in_X7, ⟨tyX7, tyX7_ok⟩, nmX7, rfl, by decide +kernel⟩
theorem fl_X7_13 : FL RX7 13 7 1 := ⟨RX7, TX7, 87, rfl, by decide, rfl, tb4 4 (by decide +kernel) rfl, in_X7⟩
theorem fw_X7_13 : FW RX7 13 7 1 .int := ⟨RX7, TX7, 87, rfl, by decide, rfl, tb4 4 (by decide +kernel) rfl, in_X7, ⟨tyX7, tyX7_ok⟩, nmX7, rfl, by decide +kernel⟩
theorem fl_X7_16 : FL RX7 16 7 2 := ⟨RX7, TX7, 87, rfl, by decide, rfl, tb4 5 (by decide +kernel) rfl, in_X7⟩
theorem fw_X7_16 : FW RX7 16 7 2 .int := ⟨RX7, TX7, 87, rfl, by decide, rfl, tb4 5 (by decide +kernel) rfl, in_X7, ⟨tyX7, tyX7_ok⟩, nmX7, rfl, by decide +kernel⟩
theorem fl_X7_19 : FL RX7 19 7 3 := ⟨RX7, TX7, 87, rfl, by decide, rfl, tb4 6 (by decide +kernel) rfl, in_X7⟩
theorem fw_X7_19 : FW RX7 19 7 3 .int := ⟨RX7, TX7, 87, rfl, by decide, rfl, tb4 6 (by decide +kernel) rfl, in_X7, ⟨tyX7, tyX7_ok⟩, nmX7, rfl, by decide +kernel⟩
theorem fl_X7_22 : FL RX7 22 7 4 := ⟨RX7, TX7, 87, rfl, by decide, rfl, tb4 7 (by decide +kernel) rfl, in_X7⟩
theorem fw_X7_22 : FW RX7 22 7 4 .int := ⟨RX7, TX7, 87, rfl, by decide, rfl, tb4 7 (by decide +kernel) rfl, in_X7, ⟨tyX7, tyX7_ok⟩, nmX7, rfl, by decide +kernel⟩
theorem fl_X7_25 : FL RX7 25 7 5 := ⟨RX7, TX7, 87, rfl, by decide, rfl, tb4 8 (by decide +kernel) rfl, in_X7⟩
theorem fw_X7_25 : FW RX7 25 7 5 .int := ⟨RX7, TX7, 87, rfl, by decide, rfl, tb4 8 (by decide +kernel) rfl, in_X7, ⟨tyX7, tyX7_ok⟩, nmX7, rfl, by decide +kernel⟩
theorem fl_X7_28 : FL RX7 28 7 6 := ⟨RX7, TX7, 87, rfl, by decide, rfl, tb4 9 (by decide +kernel) rfl, in_X7⟩
theorem fl_X7_32 : FL RX7 32 7 7 := ⟨RX7, TX7, 87, rfl, by decide, rfl, tb4 10 (by decide +kernel) rfl, in_X7⟩
theorem fl_X7_35 : FL RX7 35 7 8 := ⟨RX7, TX7, 87, rfl, by decide, rfl, tb4 11 (by decide +kernel) rfl, in_X7⟩
theorem fl_X7_38 : FL RX7 38 7 9 := ⟨RX7, TX7, 87, rfl, by decide, rfl, tb4 12 (by decide +kernel) rfl, in_X7⟩
theorem fl_X7_41 : FL RX7 41 7 10 := ⟨RX7, TX7, 87, rfl, by decide, rfl, tb4 13 (by decide +kernel) rfl, in_X7⟩
theorem fl_X7_44 : FL RX7 44 7 11 := ⟨RX7, TX7, 87, rfl, by decide, rfl, tb4 14 (by decide +kernel) rfl, in_X7⟩
theorem fl_X7_47 : FL RX7 47 7 12 := ⟨RX7, TX7, 87, rfl, by decide, rfl, tb4 15 (by decide +kernel) rfl, in_X7⟩
theorem fl_X7_50 : FL RX7 50 7 13 := ⟨RX7, TX7, 87, rfl, by decide, rfl, tb4 16 (by decide +kernel) rfl, in_X7⟩
theorem fw_X7_50 : FW RX7 50 7 13 .int := ⟨RX7, TX7, 87, rfl, by decide, rfl, tb4 16 (by decide +kernel) rfl, in_X7, ⟨tyX7, tyX7_ok⟩, nmX7, rfl, by decide +kernel⟩
theorem fl_X7_53 : FL RX7 53 7 14 := ⟨RX7, TX7, 87, rfl, by decide, rfl, tb4 17 (by decide +kernel) rfl, in_X7⟩
theorem fw_X7_53 : FW RX7 53 7 14 .int := ⟨RX7, TX7, 87, rfl, by decide, rfl, tb4 17 (by decide +kernel) rfl, in_X7, ⟨tyX7, tyX7_ok⟩, nmX7, rfl, by decide +kernel⟩
theorem fl_X7_56 : FL RX7 56 7 15 := ⟨RX7, TX7, 87, rfl, by decide, rfl, tb4 18 (by decide +kernel) rfl, in_X7⟩
theorem fw_X7_56 : FW RX7 56 7 15 .int := ⟨RX7, TX7, 87, rfl, by decide, rfl, tb4 18 (by decide +kernel) rfl, in_X7, ⟨tyX7, tyX7_ok⟩, nmX7, rfl, by decide +kernel⟩
theorem fl_X7_59 : FL RX7 59 7 16 := ⟨RX7, TX7, 87, rfl, by decide, rfl, tb4 19 (by decide +kernel) rfl, in_X7⟩
theorem fw_X7_59 : FW RX7 59 7 16 .int := ⟨RX7, TX7, 87, rfl, by decide, rfl, tb4 19 (by decide +kernel) rfl, in_X7, ⟨tyX7, tyX7_ok⟩, nmX7, rfl, by decide +kernel⟩
theorem fl_X7_62 : FL RX7 62 7 17 := ⟨RX7, TX7, 87, rfl, by decide, rfl, tb4 20 (by decide +kernel) rfl, in_X7⟩
theorem fw_X7_62 : FW RX7 62 7 17 .int := ⟨RX7, TX7, 87, rfl, by decide, rfl, tb4 20 (by decide +kernel) rfl, in_X7, ⟨tyX7, tyX7_ok⟩, nmX7, rfl, by decide +kernel⟩
theorem fl_X7_65 : FL RX7 65 7 18 := ⟨RX7, TX7, 87, rfl, by decide, rfl, tb4 21 (by decide +kernel) rfl, in_X7⟩
theorem fl_X7_68 : FL RX7 68 7 19 := ⟨RX7, TX7, 87, rfl, by decide, rfl, tb4 22 (by decide +kernel) rfl, in_X7⟩
theorem fl_X7_71 : FL RX7 71 7 20 := ⟨RX7, TX7, 87, rfl, by decide, rfl, tb4 23 (by decide +kernel) rfl, in_X7⟩
theorem fl_X7_74 : FL RX7 74 7 21 := ⟨RX7, TX7, 87, rfl, by decide, rfl, tb4 24 (by decide +kernel) rfl, in_X7⟩
theorem fl_X7_77 : FL RX7 77 7 22 := ⟨RX7, TX7, 87, rfl, by decide, rfl, tb4 25 (by decide +kernel) rfl, in_X7⟩
theorem fl_X7_80 : FL RX7 80 7 23 := ⟨RX7, TX7, 87, rfl, by decide, rfl, tb4 26 (by decide +kernel) rfl, in_X7⟩
theorem fl_X7_83 : FL RX7 83 7 24 := ⟨RX7, TX7, 87, rfl, by decide, rfl, tb4 27 (by decide +kernel) rfl, in_X7⟩
theorem fl_X7_86 : FL RX7 86 7 25 := ⟨RX7, TX7, 87, rfl, by decide, rfl, tb4 28 (by decide +kernel) rfl, in_X7⟩
theorem fl_X7_89 : FL RX7 89 7 26 := ⟨RX7, TX7, 87, rfl, by decide, rfl, tb4 29 (by decide +kernel) rfl, in_X7⟩
theorem fw_X7_89 : FW RX7 89 7 26 .int := ⟨RX7, TX7, 87, rfl, by decide, rfl, tb4 29 (by decide +kernel) rfl, in_X7, ⟨tyX7, tyX7_ok⟩, nmX7, rfl, by decide +kernel⟩
theorem fl_X7_92 : FL RX7 92 7 27 := ⟨RX7, TX7, 87, rfl, by decide, rfl, tb4 30 (by decide +kernel) rfl, in_X7⟩
theorem fw_X7_92 : FW RX7 92 7 27 .int := ⟨RX7, TX7, 87, rfl, by decide, rfl, tb4 30 (by decide +kernel) rfl, in_X7, ⟨tyX7, tyX7_ok⟩, nmX7, rfl, by decide +kernel⟩
theorem fl_X7_95 : FL RX7 95 7 28 := ⟨RX7, TX7, 87, rfl, by decide, rfl, tb4 31 (by decide +kernel) rfl, in_X7⟩
theorem fw_X7_95 : FW RX7 95 7 28 .int := ⟨RX7, TX7, 87, rfl, by decide, rfl, tb4 31 (by decide +kernel) rfl, in_X7, ⟨tyX7, tyX7_ok⟩, nmX7, rfl, by decide +kernel⟩
theorem fl_X7_98 : FL RX7 98 7 29 := ⟨RX7, TX7, 87, rfl, by decide, rfl, tb4 32 (by decide +kernel) rfl, in_X7⟩
theorem fl_X7_101 : FL RX7 101 7 30 := ⟨RX7, TX7, 87, rfl, by decide, rfl, tb4 33 (by decide +kernel) rfl, in_X7⟩
theorem fl_X7_106 : FL RX7 106 7 31 := ⟨RX7, TX7, 87, rfl, by decide, rfl, tb4 34 (by decide +kernel) rfl, in_X7⟩
theorem fw_X7_106 : FW RX7 106 7 31 .int := ⟨RX7, TX7, 87, rfl, by decide, rfl, tb4 34 (by decide +kernel) rfl, in_X7, ⟨tyX7, tyX7_ok⟩, nmX7, rfl, by decide +kernel⟩
theorem fl_X7_109 : FL RX7 109 7 32 := ⟨RX7, TX7, 87, rfl, by decide, rfl, tb4 35 (by decide +kernel) rfl, in_X7⟩
theorem fw_X7_109 : FW RX7 109 7 32 .int := ⟨RX7, TX7, 87, rfl, by decide, rfl, tb4 35 (by decide +kernel) rfl, in_X7, ⟨tyX7, tyX7_ok⟩, nmX7, rfl, by decide +kernel⟩
theorem fl_X7_112 : FL RX7 112 7 33 := ⟨RX7, TX7, 87, rfl, by decide, rfl, tb4 36 (by decide +kernel) rfl, in_X7⟩
theorem fl_X7_115 : FL RX7 115 7 34 := ⟨RX7, TX7, 87, rfl, by decide, rfl, tb4 37 (by decide +kernel) rfl, in_X7⟩
theorem fw_X7_115 : FW RX7 115 7 34 .int := ⟨RX7, TX7, 87, rfl, by decide, rfl, tb4 37 (by decide +kernel) rfl, in_X7, ⟨tyX7, tyX7_ok⟩, nmX7, rfl, by decide +kernel⟩
theorem fl_X7_118 : FL RX7 118 7 35 := ⟨RX7, TX7, 87, rfl, by decide, rfl, tb4 38 (by decide +kernel) rfl, in_X7⟩
theorem fw_X7_118 : FW RX7 118 7 35 .int := ⟨RX7, TX7, 87, rfl, by decide, rfl, tb4 38 (by decide +kernel) rfl, in_X7, ⟨tyX7, tyX7_ok⟩, nmX7, rfl, by decide +kernel⟩
theorem fl_X7_121 : FL RX7 121 7 36 := ⟨RX7, TX7, 87, rfl, by decide, rfl, tb4 39 (by decide +kernel) rfl, in_X7⟩
theorem fw_X7_121 : FW RX7 121 7 36 .int := ⟨RX7, TX7, 87, rfl, by decide, rfl, tb4 39 (by decide +kernel) rfl, in_X7, ⟨tyX7, tyX7_ok⟩, nmX7, rfl, by decide +kernel⟩
theorem fl_X7_124 : FL RX7 124 7 37 := ⟨RX7, TX7, 87, rfl, by decide, rfl, tb4 40 (by decide +kernel) rfl, in_X7⟩
theorem fw_X7_124 : FW RX7 124 7 37 .int := ⟨RX7, TX7, 87, rfl, by decide, rfl, tb4 40 (by decide +kernel) rfl, in_X7, ⟨tyX7, tyX7_ok⟩, nmX7, rfl, by decide +kernel⟩
theorem fl_X7_127 : FL RX7 127 7 38 := ⟨RX7, TX7, 87, rfl, by decide, rfl, tb4 41 (by decide +kernel) rfl, in_X7⟩
theorem fw_X7_127 : FW RX7 127 7 38 .int := ⟨RX7, TX7, 87, rfl, by decide, rfl, tb4 41 (by decide +kernel) rfl, in_X7, ⟨tyX7, tyX7_ok⟩, nmX7, rfl, by decide +kernel⟩
theorem fl_X7_130 : FL RX7 130 7 39 := ⟨RX7, TX7, 87, rfl, by decide, rfl, tb4 42 (by decide +kernel) rfl, in_X7⟩
theorem fl_X7_133 : FL RX7 133 7 40 := ⟨RX7, TX7, 87, rfl, by decide, rfl, tb4 43 (by decide +kernel) rfl, in_X7⟩
theorem fl_X7_136 : FL RX7 136 7 41 := ⟨RX7, TX7, 87, rfl, by decide, rfl, tb4 44 (by decide +kernel) rfl, in_X7⟩
theorem fl_X7_139 : FL RX7 139 7 42 := ⟨RX7, TX7, 87, rfl, by decide, rfl, tb4 45 (by decide +kernel) rfl, in_X7⟩
theorem fl_X7_142 : FL RX7 142 7 43 := ⟨RX7, TX7, 87, rfl, by decide, rfl, tb4 46 (by decide +kernel) rfl, in_X7⟩
theorem fw_X7_142 : FW RX7 142 7 43 .int := ⟨RX7, TX7, 87, rfl, by decide, rfl, tb4 46 (by decide +kernel) rfl, in_X7, ⟨tyX7, tyX7_ok⟩, nmX7, rfl, by decide +kernel⟩
theorem fl_X7_145 : FL RX7 145 7 44 := ⟨RX7, TX7, 87, rfl, by decide, rfl, tb4 47 (by decide +kernel) rfl, in_X7⟩
theorem fl_X7_148 : FL RX7 148 7 45 := ⟨RX7, TX7, 87, rfl, by decide, rfl, tb4 48 (by decide +kernel) rfl, in_X7⟩
theorem fw_X7_148 : FW RX7 148 7 45 .int := ⟨RX7, TX7, 87, rfl, by decide, rfl, tb4 48 (by decide +kernel) rfl, in_X7, ⟨tyX7, tyX7_ok⟩, nmX7, rfl, by decide +kernel⟩
theorem fl_X7_151 : FL RX7 151 7 46 := ⟨RX7, TX7, 87, rfl, by decide, rfl, tb4 49 (by decide +kernel) rfl, in_X7⟩
theorem fw_X7_151 : FW RX7 151 7 46 .int := ⟨RX7, TX7, 87, rfl, by decide, rfl, tb4 49 (by decide +kernel) rfl, in_X7, ⟨tyX7, tyX7_ok⟩, nmX7, rfl, by decide +kernel⟩
theorem fl_X7_154 : FL RX7 154 7 47 := ⟨RX7, TX7, 87, rfl, by decide, rfl, tb4 50 (by decide +kernel) rfl, in_X7⟩
theorem fl_X7_157 : FL RX7 157 7 48 := ⟨RX7, TX7, 87, rfl, by decide, rfl, tb4 51 (by decide +kernel) rfl, in_X7⟩
theorem fw_X7_157 : FW RX7 157 7 48 .int := ⟨RX7, TX7, 87, rfl, by decide, rfl, tb4 51 (by decide +kernel) rfl, in_X7, ⟨tyX7, tyX7_ok⟩, nmX7, rfl, by decide +kernel⟩
theorem fl_X7_160 : FL RX7 160 7 49 := ⟨RX7, TX7, 87, rfl, by decide, rfl, tb4 52 (by decide +kernel) rfl, in_X7⟩
theorem fl_X7_163 : FL RX7 163 7 50 := ⟨RX7, TX7, 87, rfl, by decide, rfl, tb4 53 (by decide +kernel) rfl, in_X7⟩
theorem fl_X7_166 : FL RX7 166 7 51 := ⟨RX7, TX7, 87, rfl, by decide, rfl, tb4 54 (by decide +kernel) rfl, in_X7⟩
theorem fw_X7_166 : FW RX7 166 7 51 .int := ⟨RX7, TX7, 87, rfl, by decide, rfl, tb4 54 (by decide +kernel) rfl, in_X7, ⟨tyX7, tyX7_ok⟩, nmX7, rfl, by decide +kernel⟩
theorem fl_X7_169 : FL RX7 169 7 52 := ⟨RX7, TX7, 87, rfl, by decide, rfl, tb4 55 (by decide +kernel) rfl, in_X7⟩
theorem fw_X7_169 : FW RX7 169 7 52 .int := ⟨RX7, TX7, 87, rfl, by decide, rfl, tb4 55 (by decide +kernel) rfl, in_X7, ⟨tyX7, tyX7_ok⟩, nmX7, rfl, by decide +kernel⟩
theorem fl_X7_172 : FL RX7 172 7 53 := ⟨RX7, TX7, 87, rfl, by decide, rfl, tb4 56 (by decide +kernel) rfl, in_X7⟩
theorem fl_X7_175 : FL RX7 175 7 54 := ⟨RX7, TX7, 87, rfl, by decide, rfl, tb4 57 (by decide +kernel) rfl, in_X7⟩
theorem fl_X7_178 : FL RX7 178 7 55 := ⟨RX7, TX7, 87, rfl, by decide, rfl, tb4 58 (by decide +kernel) rfl, in_X7⟩
theorem fl_X7_181 : FL RX7 181 7 56 := ⟨RX7, TX7, 87, rfl, by decide, rfl, tb4 59 (by decide +kernel) rfl, in_X7⟩
theorem fl_X7_184 : FL RX7 184 7 57 := ⟨RX7, TX7, 87, rfl, by decide, rfl, tb4 60 (by decide +kernel) rfl, in_X7⟩
theorem fw_X7_184 : FW RX7 184 7 57 .boolean := ⟨RX7, TX7, 87, rfl, by decide, rfl, tb4 60 (by decide +kernel) rfl, in_X7, ⟨tyX7, tyX7_ok⟩, nmX7, rfl, by decide +kernel⟩
theorem fl_X7_188 : FL RX7 188 7 58 := ⟨RX7, TX7, 87, rfl, by decide, rfl, tb4 61 (by decide +kernel) rfl, in_X7⟩
theorem fw_X7_188 : FW RX7 188 7 58 .int := ⟨RX7, TX7, 87, rfl, by decide, rfl, tb4 61 (by decide +kernel) rfl, in_X7, ⟨tyX7, tyX7_ok⟩, nmX7, rfl, by decide +kernel⟩
theorem fl_X7_191 : FL RX7 191 7 59 := ⟨RX7, TX7, 87, rfl, by decide, rfl, tb4 62 (by decide +kernel) rfl, in_X7⟩
theorem fw_X7_191 : FW RX7 191 7 59 .int := ⟨RX7, TX7, 87, rfl, by decide, rfl, tb4 62 (by decide +kernel) rfl, in_X7, ⟨tyX7, tyX7_ok⟩, nmX7, rfl, by decide +kernel⟩
theorem fl_X7_194 : FL RX7 194 7 60 := ⟨RX7, TX7, 87, rfl, by decide, rfl, tb4 63 (by decide +kernel) rfl, in_X7⟩
theorem fw_X7_194 : FW RX7 194 7 60 .int := ⟨RX7, TX7, 87, rfl, by decide, rfl, tb4 63 (by decide +kernel) rfl, in_X7, ⟨tyX7, tyX7_ok⟩, nmX7, rfl, by decide +kernel⟩
theorem fl_X7_197 : FL RX7 197 7 61 := ⟨RX7, TX7, 87, rfl, by decide, rfl, tb4 64 (by decide +kernel) rfl, in_X7⟩
theorem fw_X7_197 : FW RX7 197 7 61 .int := ⟨RX7, TX7, 87, rfl, by decide, rfl, tb4 64 (by decide +kernel) rfl, in_X7, ⟨tyX7, tyX7_ok⟩, nmX7, rfl, by decide +kernel⟩
theorem fl_X7_200 : FL RX7 200 7 62 := ⟨RX7, TX7, 87, rfl, by decide, rfl, tb4 65 (by decide +kernel) rfl, in_X7⟩
theorem fw_X7_200 : FW RX7 200 7 62 .int := ⟨RX7, TX7, 87, rfl, by decide, rfl, tb4 65 (by decide +kernel) rfl, in_X7, ⟨tyX7, tyX7_ok⟩, nmX7, rfl, by decide +kernel⟩
theorem fl_X7_203 : FL RX7 203 7 63 := ⟨RX7, TX7, 87, rfl, by decide, rfl, tb4 66 (by decide +kernel) rfl, in_X7⟩
theorem fw_X7_203 : FW RX7 203 7 63 .int := ⟨RX7, TX7, 87, rfl, by decide, rfl, tb4 66 (by decide +kernel) rfl, in_X7, ⟨tyX7, tyX7_ok⟩, nmX7, rfl, by decide +kernel⟩
theorem fl_X7_206 : FL RX7 206 7 64 := ⟨RX7, TX7, 87, rfl, by decide, rfl, tb4 67 (by decide +kernel) rfl, in_X7⟩
theorem fw_X7_206 : FW RX7 206 7 64 .int := ⟨RX7, TX7, 87, rfl, by decide, rfl, tb4 67 (by decide +kernel) rfl, in_X7, ⟨tyX7, tyX7_ok⟩, nmX7, rfl, by decide +kernel⟩
theorem fl_X7_209 : FL RX7 209 7 65 := ⟨RX7, TX7, 87, rfl, by decide, rfl, tb4 68 (by decide +kernel) rfl, in_X7⟩
theorem fw_X7_209 : FW RX7 209 7 65 .int := ⟨RX7, TX7, 87, rfl, by decide, rfl, tb4 68 (by decide +kernel) rfl, in_X7, ⟨tyX7, tyX7_ok⟩, nmX7, rfl, by decide +kernel⟩
theorem fl_X7_212 : FL RX7 212 7 66 := ⟨RX7, TX7, 87, rfl, by decide, rfl, tb4 69 (by decide +kernel) rfl, in_X7⟩
theorem fw_X7_212 : FW RX7 212 7 66 .int := ⟨RX7, TX7, 87, rfl, by decide, rfl, tb4 69 (by decide +kernel) rfl, in_X7, ⟨tyX7, tyX7_ok⟩, nmX7, rfl, by decide +kernel⟩
theorem fl_X7_215 : FL RX7 215 7 67 := ⟨RX7, TX7, 87, rfl, by decide, rfl, tb4 70 (by decide +kernel) rfl, in_X7⟩
theorem fw_X7_215 : FW RX7 215 7 67 .int := ⟨RX7, TX7, 87, rfl, by decide, rfl, tb4 70 (by decide +kernel) rfl, in_X7, ⟨tyX7, tyX7_ok⟩, nmX7, rfl, by decide +kernel⟩
theorem fl_X7_218 : FL RX7 218 7 68 := ⟨RX7, TX7, 87, rfl, by decide, rfl, tb4 71 (by decide +kernel) rfl, in_X7⟩
theorem fl_X7_221 : FL RX7 221 7 69 := ⟨RX7, TX7, 87, rfl, by decide, rfl, tb4 72 (by decide +kernel) rfl, in_X7⟩
theorem fl_X7_224 : FL RX7 224 7 70 := ⟨RX7, TX7, 87, rfl, by decide, rfl, tb4 73 (by decide +kernel) rfl, in_X7⟩
theorem fl_X7_227 : FL RX7 227 7 71 := ⟨RX7, TX7, 87, rfl, by decide, rfl, tb4 74 (by decide +kernel) rfl, in_X7⟩
theorem fl_X7_230 : FL RX7 230 7 72 := ⟨RX7, TX7, 87, rfl, by decide, rfl, tb4 75 (by decide +kernel) rfl, in_X7⟩
theorem fl_X7_233 : FL RX7 233 7 73 := ⟨RX7, TX7, 87, rfl, by decide, rfl, tb4 76 (by decide +kernel) rfl, in_X7⟩
theorem fl_X7_236 : FL RX7 236 7 74 := ⟨RX7, TX7, 87, rfl, by decide, rfl, tb4 77 (by decide +kernel) rfl, in_X7⟩
theorem fl_X7_239 : FL RX7 239 7 75 := ⟨RX7, TX7, 87, rfl, by decide, rfl, tb4 78 (by decide +kernel) rfl, in_X7⟩
theorem fl_X7_242 : FL RX7 242 7 76 := ⟨RX7, TX7, 87, rfl, by decide, rfl, tb4 79 (by decide +kernel) rfl, in_X7⟩
theorem fl_X7_245 : FL RX7 245 7 77 := ⟨RX7, TX7, 87, rfl, by decide, rfl, tb4 80 (by decide +kernel) rfl, in_X7⟩
theorem fl_X7_248 : FL RX7 248 7 78 := ⟨RX7, TX7, 87, rfl, by decide, rfl, tb4 81 (by decide +kernel) rfl, in_X7⟩
theorem fl_X7_251 : FL RX7 251 7 79 := ⟨RX7, TX7, 87, rfl, by decide, rfl, tb4 82 (by decide +kernel) rfl, in_X7⟩
theorem fl_X7_254 : FL RX7 254 7 80 := ⟨RX7, TX7, 87, rfl, by decide, rfl, tb4 83 (by decide +kernel) rfl, in_X7⟩
theorem fl_X7_257 : FL RX7 257 7 81 := ⟨RX7, TX7, 87, rfl, by decide, rfl, tb4 84 (by decide +kernel) rfl, in_X7⟩
theorem fw_X7_257 : FW RX7 257 7 81 .int := ⟨RX7, TX7, 87, rfl, by decide, rfl, tb4 84 (by decide +kernel) rfl, in_X7, ⟨tyX7, tyX7_ok⟩, nmX7, rfl, by decide +kernel⟩
theorem fl_X7_260 : FL RX7 260 7 82 := ⟨RX7, TX7, 87, rfl, by decide, rfl, tb4 85 (by decide +kernel) rfl, in_X7⟩
theorem fl_X7_263 : FL RX7 263 7 83 := ⟨RX7, TX7, 87, rfl, by decide, rfl, tb4 86 (by decide +kernel) rfl, in_X7⟩
theorem fl_X7_266 : FL RX7 266 7 84 := ⟨RX7, TX7, 87, rfl, by decide, rfl, tb4 87 (by decide +kernel) rfl, in_X7⟩
theorem fl_X7_269 : FL RX7 269 7 85 := ⟨RX7, TX7, 87, rfl, by decide, rfl, tb4 88 (by decide +kernel) rfl, in_X7⟩
theorem fl_X7_273 : FL RX7 273 7 86 := ⟨RX7, TX7, 87, rfl, by decide, rfl, tb4 89 (by decide +kernel) rfl, in_X7⟩
theorem cw_L_13 : CW RL 13 3 mX6_piece := ⟨tb2 23 (by decide +kernel) rfl, tb2 24 (by decide +kernel) rfl, tb2 25 (by decide +kernel) rfl, tb1 1 (by decide +kernel) rfl, tb2 26 (by decide +kernel) rfl, by decide +kernel, by decide +kernel, by decide +kernel, by decide⟩
theorem cw_L_17 : CW RL 17 3 mX7_piece := ⟨tb5 26 (by decide +kernel) rfl, tb5 27 (by decide +kernel) rfl, tb5 28 (by decide +kernel) rfl, tb1 8 (by decide +kernel) rfl, tb5 29 (by decide +kernel) rfl, by decide +kernel, by decide +kernel, by decide +kernel, by decide⟩
theorem cw_L_18 : CW RL 18 2 mX6_of := ⟨tb2 34 (by decide +kernel) rfl, tb2 35 (by decide +kernel) rfl, tb2 36 (by decide +kernel) rfl, tb1 1 (by decide +kernel) rfl, tb2 37 (by decide +kernel) rfl, by decide +kernel, by decide +kernel, by decide +kernel, by decide⟩
theorem cw_L_22 : CW RL 22 2 mX7_of := ⟨tb5 142 (by decide +kernel) rfl, tb5 143 (by decide +kernel) rfl, tb5 144 (by decide +kernel) rfl, tb1 8 (by decide +kernel) rfl, tb5 145 (by decide +kernel) rfl, by decide +kernel, by decide +kernel, by decide +kernel, by decide⟩
theorem cw_L_23 : CW RL 23 3 mX6_set := ⟨tb2 67 (by decide +kernel) rfl, tb2 68 (by decide +kernel) rfl, tb2 69 (by decide +kernel) rfl, tb1 1 (by decide +kernel) rfl, tb2 70 (by decide +kernel) rfl, by decide +kernel, by decide +kernel, by decide +kernel, by decide⟩
theorem cw_L_26 : CW RL 26 3 mX7_set := ⟨tb5 34 (by decide +kernel) rfl, tb5 35 (by decide +kernel) rfl, tb5 36 (by decide +kernel) rfl, tb1 8 (by decide +kernel) rfl, tb5 37 (by decide +kernel) rfl, by decide +kernel, by decide +kernel, by decide +kernel, by decide⟩
theorem cw_L_27 : CW RL 27 3 mX6_row := ⟨tb2 71 (by decide +kernel) rfl, tb2 72 (by decide +kernel) rfl, tb2 73 (by decide +kernel) rfl, tb1 1 (by decide +kernel) rfl, tb2 74 (by decide +kernel) rfl, by decide +kernel, by decide +kernel, by decide +kernel, by decide⟩
theorem cw_L_30 : CW RL 30 3 mX7_row := ⟨tb5 46 (by decide +kernel) rfl, tb5 47 (by decide +kernel) rfl, tb5 48 (by decide +kernel) rfl, tb1 8 (by decide +kernel) rfl, tb5 49 (by decide +kernel) rfl, by decide +kernel, by decide +kernel, by decide +kernel, by decide⟩
theorem cw_L_31 : CW RL 31 1 mX6_hoist := ⟨tb2 75 (by decide +kernel) rfl, tb2 76 (by decide +kernel) rfl, tb2 77 (by decide +kernel) rfl, tb1 1 (by decide +kernel) rfl, tb2 78 (by decide +kernel) rfl, by decide +kernel, by decide +kernel, by decide +kernel, by decide⟩
theorem cw_L_35 : CW RL 35 1 mX7_hoist := ⟨tb5 50 (by decide +kernel) rfl, tb5 51 (by decide +kernel) rfl, tb5 52 (by decide +kernel) rfl, tb1 8 (by decide +kernel) rfl, tb5 53 (by decide +kernel) rfl, by decide +kernel, by decide +kernel, by decide +kernel, by decide⟩
theorem cw_L_36 : CW RL 36 1 mX6_lower := ⟨tb2 83 (by decide +kernel) rfl, tb2 84 (by decide +kernel) rfl, tb2 85 (by decide +kernel) rfl, tb1 1 (by decide +kernel) rfl, tb2 86 (by decide +kernel) rfl, by decide +kernel, by decide +kernel, by decide +kernel, by decide⟩
theorem cw_L_39 : CW RL 39 1 mX7_lower := ⟨tb5 62 (by decide +kernel) rfl, tb5 63 (by decide +kernel) rfl, tb5 64 (by decide +kernel) rfl, tb1 8 (by decide +kernel) rfl, tb5 65 (by decide +kernel) rfl, by decide +kernel, by decide +kernel, by decide +kernel, by decide⟩
theorem cw_L_40 : CW RL 40 2 mX6_trim := ⟨tb2 87 (by decide +kernel) rfl, tb2 88 (by decide +kernel) rfl, tb2 89 (by decide +kernel) rfl, tb1 1 (by decide +kernel) rfl, tb2 90 (by decide +kernel) rfl, by decide +kernel, by decide +kernel, by decide +kernel, by decide⟩
theorem cw_L_43 : CW RL 43 2 mX7_trim := ⟨tb5 66 (by decide +kernel) rfl, tb5 67 (by decide +kernel) rfl, tb5 68 (by decide +kernel) rfl, tb1 8 (by decide +kernel) rfl, tb5 69 (by decide +kernel) rfl, by decide +kernel, by decide +kernel, by decide +kernel, by decide⟩
theorem cw_L_44 : CW RL 44 1 mX6_feed := ⟨tb2 91 (by decide +kernel) rfl, tb2 92 (by decide +kernel) rfl, tb2 93 (by decide +kernel) rfl, tb1 1 (by decide +kernel) rfl, tb2 94 (by decide +kernel) rfl, by decide +kernel, by decide +kernel, by decide +kernel, by decide⟩
theorem cw_L_47 : CW RL 47 1 mX7_feed := ⟨tb5 74 (by decide +kernel) rfl, tb5 75 (by decide +kernel) rfl, tb5 76 (by decide +kernel) rfl, tb1 8 (by decide +kernel) rfl, tb5 77 (by decide +kernel) rfl, by decide +kernel, by decide +kernel, by decide +kernel, by decide⟩
theorem cw_L_48 : CW RL 48 0 mX6_ocean := ⟨tb2 99 (by decide +kernel) rfl, tb2 100 (by decide +kernel) rfl, tb2 101 (by decide +kernel) rfl, tb1 1 (by decide +kernel) rfl, tb2 102 (by decide +kernel) rfl, by decide +kernel, by decide +kernel, by decide +kernel, by decide⟩
theorem cw_L_52 : CW RL 52 0 mX7_ocean := ⟨tb5 78 (by decide +kernel) rfl, tb5 79 (by decide +kernel) rfl, tb5 80 (by decide +kernel) rfl, tb1 8 (by decide +kernel) rfl, tb5 81 (by decide +kernel) rfl, by decide +kernel, by decide +kernel, by decide +kernel, by decide⟩
theorem cw_L_53 : CW RL 53 1 mX6_told := ⟨tb3 7 (by decide +kernel) rfl, tb3 8 (by decide +kernel) rfl, tb3 9 (by decide +kernel) rfl, tb1 1 (by decide +kernel) rfl, tb3 10 (by decide +kernel) rfl, by decide +kernel, by decide +kernel, by decide +kernel, by decide⟩
theorem cw_L_56 : CW RL 56 1 mX7_told := ⟨tb5 186 (by decide +kernel) rfl, tb5 187 (by decide +kernel) rfl, tb5 188 (by decide +kernel) rfl, tb1 8 (by decide +kernel) rfl, tb5 189 (by decide +kernel) rfl, by decide +kernel, by decide +kernel, by decide +kernel, by decide⟩
theorem cw_L_57 : CW RL 57 1 mX6_pass := ⟨tb3 20 (by decide +kernel) rfl, tb3 21 (by decide +kernel) rfl, tb3 22 (by decide +kernel) rfl, tb1 1 (by decide +kernel) rfl, tb3 23 (by decide +kernel) rfl, by decide +kernel, by decide +kernel, by decide +kernel, by decide⟩
theorem cw_L_60 : CW RL 60 1 mX7_pass := ⟨tb5 198 (by decide +kernel) rfl, tb5 199 (by decide +kernel) rfl, tb5 200 (by decide +kernel) rfl, tb1 8 (by decide +kernel) rfl, tb5 201 (by decide +kernel) rfl, by decide +kernel, by decide +kernel, by decide +kernel, by decide⟩
theorem cw_L_61 : CW RL 61 2 mX6_on := ⟨tb3 37 (by decide +kernel) rfl, tb3 38 (by decide +kernel) rfl, tb3 39 (by decide +kernel) rfl, tb1 1 (by decide +kernel) rfl, tb3 40 (by decide +kernel) rfl, by decide +kernel, by decide +kernel, by decide +kernel, by decide⟩
theorem cw_L_64 : CW RL 64 2 mX7_on := ⟨tb5 226 (by decide +kernel) rfl, tb5 227 (by decide +kernel) rfl, tb5 228 (by decide +kernel) rfl, tb1 8 (by decide +kernel) rfl, tb5 229 (by decide +kernel) rfl, by decide +kernel, by decide +kernel, by decide +kernel, by decide⟩
theorem cw_L_65 : CW RL 65 1 mX6_first := ⟨tb3 52 (by decide +kernel) rfl, tb3 53 (by decide +kernel) rfl, tb3 54 (by decide +kernel) rfl, tb1 1 (by decide +kernel) rfl, tb3 55 (by decide +kernel) rfl, by decide +kernel, by decide +kernel, by decide +kernel, by decide⟩
theorem cw_L_68 : CW RL 68 1 mX7_first := ⟨tb5 239 (by decide +kernel) rfl, tb6 0 (by decide +kernel) rfl, tb6 1 (by decide +kernel) rfl, tb1 8 (by decide +kernel) rfl, tb6 2 (by decide +kernel) rfl, by decide +kernel, by decide +kernel, by decide +kernel, by decide⟩
theorem cw_L_69 : CW RL 69 1 mX6_port := ⟨tb3 56 (by decide +kernel) rfl, tb3 57 (by decide +kernel) rfl, tb3 58 (by decide +kernel) rfl, tb1 1 (by decide +kernel) rfl, tb3 59 (by decide +kernel) rfl, by decide +kernel, by decide +kernel, by decide +kernel, by decide⟩
theorem cw_L_72 : CW RL 72 1 mX7_port := ⟨tb6 7 (by decide +kernel) rfl, tb6 8 (by decide +kernel) rfl, tb6 9 (by decide +kernel) rfl, tb1 8 (by decide +kernel) rfl, tb6 10 (by decide +kernel) rfl, by decide +kernel, by decide +kernel, by decide +kernel, by decide⟩
theorem cw_L_73 : CW RL 73 0 mX6_spread := ⟨tb3 60 (by decide +kernel) rfl, tb3 61 (by decide +kernel) rfl, tb3 62 (by decide +kernel) rfl, tb1 1 (by decide +kernel) rfl, tb3 63 (by decide +kernel) rfl, by decide +kernel, by decide +kernel, by decide +kernel, by decide⟩
theorem cw_L_76 : CW RL 76 0 mX7_spread := ⟨tb6 11 (by decide +kernel) rfl, tb6 12 (by decide +kernel) rfl, tb6 13 (by decide +kernel) rfl, tb1 8 (by decide +kernel) rfl, tb6 14 (by decide +kernel) rfl, by decide +kernel, by decide +kernel, by decide +kernel, by decide⟩
theorem cw_L_77 : CW RL 77 1 mX6_fewest := ⟨tb3 64 (by decide +kernel) rfl, tb3 65 (by decide +kernel) rfl, tb3 66 (by decide +kernel) rfl, tb1 1 (by decide +kernel) rfl, tb3 67 (by decide +kernel) rfl, by decide +kernel, by decide +kernel, by decide +kernel, by decide⟩
theorem cw_L_80 : CW RL 80 1 mX7_fewest := ⟨tb6 19 (by decide +kernel) rfl, tb6 20 (by decide +kernel) rfl, tb6 21 (by decide +kernel) rfl, tb1 8 (by decide +kernel) rfl, tb6 22 (by decide +kernel) rfl, by decide +kernel, by decide +kernel, by decide +kernel, by decide⟩
theorem cw_L_81 : CW RL 81 2 mX6_best := ⟨tb3 73 (by decide +kernel) rfl, tb3 74 (by decide +kernel) rfl, tb3 75 (by decide +kernel) rfl, tb1 1 (by decide +kernel) rfl, tb3 76 (by decide +kernel) rfl, by decide +kernel, by decide +kernel, by decide +kernel, by decide⟩
theorem cw_L_84 : CW RL 84 2 mX7_best := ⟨tb6 23 (by decide +kernel) rfl, tb6 24 (by decide +kernel) rfl, tb6 25 (by decide +kernel) rfl, tb1 8 (by decide +kernel) rfl, tb6 26 (by decide +kernel) rfl, by decide +kernel, by decide +kernel, by decide +kernel, by decide⟩
theorem cw_L_85 : CW RL 85 1 mX6_longest := ⟨tb3 95 (by decide +kernel) rfl, tb3 96 (by decide +kernel) rfl, tb3 97 (by decide +kernel) rfl, tb1 1 (by decide +kernel) rfl, tb3 98 (by decide +kernel) rfl, by decide +kernel, by decide +kernel, by decide +kernel, by decide⟩
theorem cw_L_88 : CW RL 88 1 mX7_longest := ⟨tb6 35 (by decide +kernel) rfl, tb6 36 (by decide +kernel) rfl, tb6 37 (by decide +kernel) rfl, tb1 8 (by decide +kernel) rfl, tb6 38 (by decide +kernel) rfl, by decide +kernel, by decide +kernel, by decide +kernel, by decide⟩
theorem cw_L_89 : CW RL 89 2 mX6_see := ⟨tb3 99 (by decide +kernel) rfl, tb3 100 (by decide +kernel) rfl, tb3 101 (by decide +kernel) rfl, tb1 1 (by decide +kernel) rfl, tb3 102 (by decide +kernel) rfl, by decide +kernel, by decide +kernel, by decide +kernel, by decide⟩
theorem cw_L_92 : CW RL 92 2 mX7_see := ⟨tb6 43 (by decide +kernel) rfl, tb6 44 (by decide +kernel) rfl, tb6 45 (by decide +kernel) rfl, tb1 8 (by decide +kernel) rfl, tb6 46 (by decide +kernel) rfl, by decide +kernel, by decide +kernel, by decide +kernel, by decide⟩
theorem cw_L_93 : CW RL 93 2 mX6_worn := ⟨tb3 111 (by decide +kernel) rfl, tb3 112 (by decide +kernel) rfl, tb3 113 (by decide +kernel) rfl, tb1 1 (by decide +kernel) rfl, tb3 114 (by decide +kernel) rfl, by decide +kernel, by decide +kernel, by decide +kernel, by decide⟩
theorem cw_L_96 : CW RL 96 2 mX7_worn := ⟨tb6 47 (by decide +kernel) rfl, tb6 48 (by decide +kernel) rfl, tb6 49 (by decide +kernel) rfl, tb1 8 (by decide +kernel) rfl, tb6 50 (by decide +kernel) rfl, by decide +kernel, by decide +kernel, by decide +kernel, by decide⟩
theorem cw_L_97 : CW RL 97 2 mX6_can := ⟨tb3 124 (by decide +kernel) rfl, tb3 125 (by decide +kernel) rfl, tb3 126 (by decide +kernel) rfl, tb1 1 (by decide +kernel) rfl, tb3 127 (by decide +kernel) rfl, by decide +kernel, by decide +kernel, by decide +kernel, by decide⟩
theorem cw_L_100 : CW RL 100 2 mX7_can := ⟨tb6 55 (by decide +kernel) rfl, tb6 56 (by decide +kernel) rfl, tb6 57 (by decide +kernel) rfl, tb1 8 (by decide +kernel) rfl, tb6 58 (by decide +kernel) rfl, by decide +kernel, by decide +kernel, by decide +kernel, by decide⟩
theorem cw_L_101 : CW RL 101 2 mX6_odds := ⟨tb3 128 (by decide +kernel) rfl, tb3 129 (by decide +kernel) rfl, tb3 130 (by decide +kernel) rfl, tb1 1 (by decide +kernel) rfl, tb3 131 (by decide +kernel) rfl, by decide +kernel, by decide +kernel, by decide +kernel, by decide⟩
theorem cw_L_105 : CW RL 105 2 mX7_odds := ⟨tb6 59 (by decide +kernel) rfl, tb6 60 (by decide +kernel) rfl, tb6 61 (by decide +kernel) rfl, tb1 8 (by decide +kernel) rfl, tb6 62 (by decide +kernel) rfl, by decide +kernel, by decide +kernel, by decide +kernel, by decide⟩
theorem cw_L_106 : CW RL 106 1 mX6_mean := ⟨tb3 136 (by decide +kernel) rfl, tb3 137 (by decide +kernel) rfl, tb3 138 (by decide +kernel) rfl, tb1 1 (by decide +kernel) rfl, tb3 139 (by decide +kernel) rfl, by decide +kernel, by decide +kernel, by decide +kernel, by decide⟩
theorem cw_L_110 : CW RL 110 1 mX7_mean := ⟨tb6 72 (by decide +kernel) rfl, tb6 73 (by decide +kernel) rfl, tb6 74 (by decide +kernel) rfl, tb1 8 (by decide +kernel) rfl, tb6 75 (by decide +kernel) rfl, by decide +kernel, by decide +kernel, by decide +kernel, by decide⟩
theorem cw_L_111 : CW RL 111 2 mX6_plan := ⟨tb3 140 (by decide +kernel) rfl, tb3 141 (by decide +kernel) rfl, tb3 142 (by decide +kernel) rfl, tb1 1 (by decide +kernel) rfl, tb3 143 (by decide +kernel) rfl, by decide +kernel, by decide +kernel, by decide +kernel, by decide⟩
theorem cw_L_114 : CW RL 114 2 mX7_plan := ⟨tb6 76 (by decide +kernel) rfl, tb6 77 (by decide +kernel) rfl, tb6 78 (by decide +kernel) rfl, tb1 8 (by decide +kernel) rfl, tb6 79 (by decide +kernel) rfl, by decide +kernel, by decide +kernel, by decide +kernel, by decide⟩
theorem cw_L_115 : CW RL 115 1 mX6_ends := ⟨tb3 144 (by decide +kernel) rfl, tb3 145 (by decide +kernel) rfl, tb3 146 (by decide +kernel) rfl, tb1 1 (by decide +kernel) rfl, tb3 147 (by decide +kernel) rfl, by decide +kernel, by decide +kernel, by decide +kernel, by decide⟩
theorem cw_L_118 : CW RL 118 1 mX7_ends := ⟨tb6 80 (by decide +kernel) rfl, tb6 81 (by decide +kernel) rfl, tb6 82 (by decide +kernel) rfl, tb1 8 (by decide +kernel) rfl, tb6 83 (by decide +kernel) rfl, by decide +kernel, by decide +kernel, by decide +kernel, by decide⟩
theorem cw_L_119 : CW RL 119 2 mX6_book := ⟨tb3 152 (by decide +kernel) rfl, tb3 153 (by decide +kernel) rfl, tb3 154 (by decide +kernel) rfl, tb1 1 (by decide +kernel) rfl, tb3 155 (by decide +kernel) rfl, by decide +kernel, by decide +kernel, by decide +kernel, by decide⟩
theorem cw_L_122 : CW RL 122 2 mX7_book := ⟨tb6 88 (by decide +kernel) rfl, tb6 89 (by decide +kernel) rfl, tb6 90 (by decide +kernel) rfl, tb1 8 (by decide +kernel) rfl, tb6 91 (by decide +kernel) rfl, by decide +kernel, by decide +kernel, by decide +kernel, by decide⟩
theorem cw_L_123 : CW RL 123 0 mX6_looked := ⟨tb3 156 (by decide +kernel) rfl, tb3 157 (by decide +kernel) rfl, tb3 158 (by decide +kernel) rfl, tb1 1 (by decide +kernel) rfl, tb3 159 (by decide +kernel) rfl, by decide +kernel, by decide +kernel, by decide +kernel, by decide⟩
theorem cw_L_126 : CW RL 126 0 mX7_looked := ⟨tb6 92 (by decide +kernel) rfl, tb6 93 (by decide +kernel) rfl, tb6 94 (by decide +kernel) rfl, tb1 8 (by decide +kernel) rfl, tb6 95 (by decide +kernel) rfl, by decide +kernel, by decide +kernel, by decide +kernel, by decide⟩
theorem cw_L_127 : CW RL 127 2 mX6_judge := ⟨tb3 160 (by decide +kernel) rfl, tb3 161 (by decide +kernel) rfl, tb3 162 (by decide +kernel) rfl, tb1 1 (by decide +kernel) rfl, tb3 163 (by decide +kernel) rfl, by decide +kernel, by decide +kernel, by decide +kernel, by decide⟩
theorem cw_L_130 : CW RL 130 2 mX7_judge := ⟨tb6 96 (by decide +kernel) rfl, tb6 97 (by decide +kernel) rfl, tb6 98 (by decide +kernel) rfl, tb1 8 (by decide +kernel) rfl, tb6 99 (by decide +kernel) rfl, by decide +kernel, by decide +kernel, by decide +kernel, by decide⟩
theorem cw_L_131 : CW RL 131 0 mX6_image := ⟨tb3 164 (by decide +kernel) rfl, tb3 165 (by decide +kernel) rfl, tb3 166 (by decide +kernel) rfl, tb1 1 (by decide +kernel) rfl, tb3 167 (by decide +kernel) rfl, by decide +kernel, by decide +kernel, by decide +kernel, by decide⟩
theorem cw_L_134 : CW RL 134 0 mX7_image := ⟨tb6 104 (by decide +kernel) rfl, tb6 105 (by decide +kernel) rfl, tb6 106 (by decide +kernel) rfl, tb1 8 (by decide +kernel) rfl, tb6 107 (by decide +kernel) rfl, by decide +kernel, by decide +kernel, by decide +kernel, by decide⟩
theorem cw_L_135 : CW RL 135 0 mX6_undo := ⟨tb3 175 (by decide +kernel) rfl, tb3 176 (by decide +kernel) rfl, tb3 177 (by decide +kernel) rfl, tb1 1 (by decide +kernel) rfl, tb3 178 (by decide +kernel) rfl, by decide +kernel, by decide +kernel, by decide +kernel, by decide⟩
theorem cw_L_138 : CW RL 138 0 mX7_undo := ⟨tb6 108 (by decide +kernel) rfl, tb6 109 (by decide +kernel) rfl, tb6 110 (by decide +kernel) rfl, tb1 8 (by decide +kernel) rfl, tb6 111 (by decide +kernel) rfl, by decide +kernel, by decide +kernel, by decide +kernel, by decide⟩
theorem cw_L_139 : CW RL 139 3 mX6_act := ⟨tb3 179 (by decide +kernel) rfl, tb3 180 (by decide +kernel) rfl, tb3 181 (by decide +kernel) rfl, tb1 1 (by decide +kernel) rfl, tb3 182 (by decide +kernel) rfl, by decide +kernel, by decide +kernel, by decide +kernel, by decide⟩
theorem cw_L_142 : CW RL 142 3 mX7_act := ⟨tb6 112 (by decide +kernel) rfl, tb6 113 (by decide +kernel) rfl, tb6 114 (by decide +kernel) rfl, tb1 8 (by decide +kernel) rfl, tb6 115 (by decide +kernel) rfl, by decide +kernel, by decide +kernel, by decide +kernel, by decide⟩
theorem cw_L_143 : CW RL 143 1 mX6_trace := ⟨tb3 198 (by decide +kernel) rfl, tb3 199 (by decide +kernel) rfl, tb3 200 (by decide +kernel) rfl, tb1 1 (by decide +kernel) rfl, tb3 201 (by decide +kernel) rfl, by decide +kernel, by decide +kernel, by decide +kernel, by decide⟩
theorem cw_L_146 : CW RL 146 1 mX7_trace := ⟨tb6 148 (by decide +kernel) rfl, tb6 149 (by decide +kernel) rfl, tb6 150 (by decide +kernel) rfl, tb1 8 (by decide +kernel) rfl, tb6 151 (by decide +kernel) rfl, by decide +kernel, by decide +kernel, by decide +kernel, by decide⟩
theorem cw_L_147 : CW RL 147 2 mX6_taken := ⟨tb3 202 (by decide +kernel) rfl, tb3 203 (by decide +kernel) rfl, tb3 204 (by decide +kernel) rfl, tb1 1 (by decide +kernel) rfl, tb3 205 (by decide +kernel) rfl, by decide +kernel, by decide +kernel, by decide +kernel, by decide⟩
theorem cw_L_150 : CW RL 150 2 mX7_taken := ⟨tb6 152 (by decide +kernel) rfl, tb6 153 (by decide +kernel) rfl, tb6 154 (by decide +kernel) rfl, tb1 8 (by decide +kernel) rfl, tb6 155 (by decide +kernel) rfl, by decide +kernel, by decide +kernel, by decide +kernel, by decide⟩
theorem cw_L_151 : CW RL 151 1 mX6_count := ⟨tb3 207 (by decide +kernel) rfl, tb3 208 (by decide +kernel) rfl, tb3 209 (by decide +kernel) rfl, tb1 1 (by decide +kernel) rfl, tb3 210 (by decide +kernel) rfl, by decide +kernel, by decide +kernel, by decide +kernel, by decide⟩
theorem cw_L_154 : CW RL 154 1 mX7_count := ⟨tb6 156 (by decide +kernel) rfl, tb6 157 (by decide +kernel) rfl, tb6 158 (by decide +kernel) rfl, tb1 8 (by decide +kernel) rfl, tb6 159 (by decide +kernel) rfl, by decide +kernel, by decide +kernel, by decide +kernel, by decide⟩
theorem cw_L_155 : CW RL 155 3 mX6_tape := ⟨tb3 211 (by decide +kernel) rfl, tb3 212 (by decide +kernel) rfl, tb3 213 (by decide +kernel) rfl, tb1 1 (by decide +kernel) rfl, tb3 214 (by decide +kernel) rfl, by decide +kernel, by decide +kernel, by decide +kernel, by decide⟩
theorem cw_L_158 : CW RL 158 3 mX7_tape := ⟨tb6 160 (by decide +kernel) rfl, tb6 161 (by decide +kernel) rfl, tb6 162 (by decide +kernel) rfl, tb1 8 (by decide +kernel) rfl, tb6 163 (by decide +kernel) rfl, by decide +kernel, by decide +kernel, by decide +kernel, by decide⟩
theorem cw_L_161 : CW RL 161 3 mX6_item := ⟨tb3 219 (by decide +kernel) rfl, tb3 220 (by decide +kernel) rfl, tb3 221 (by decide +kernel) rfl, tb1 1 (by decide +kernel) rfl, tb3 222 (by decide +kernel) rfl, by decide +kernel, by decide +kernel, by decide +kernel, by decide⟩
theorem cw_L_165 : CW RL 165 3 mX7_item := ⟨tb6 164 (by decide +kernel) rfl, tb6 165 (by decide +kernel) rfl, tb6 166 (by decide +kernel) rfl, tb1 8 (by decide +kernel) rfl, tb6 167 (by decide +kernel) rfl, by decide +kernel, by decide +kernel, by decide +kernel, by decide⟩
theorem cw_L_166 : CW RL 166 2 mX6_read := ⟨tb3 227 (by decide +kernel) rfl, tb3 228 (by decide +kernel) rfl, tb3 229 (by decide +kernel) rfl, tb1 1 (by decide +kernel) rfl, tb3 230 (by decide +kernel) rfl, by decide +kernel, by decide +kernel, by decide +kernel, by decide⟩
theorem cw_L_169 : CW RL 169 2 mX7_read := ⟨tb6 172 (by decide +kernel) rfl, tb6 173 (by decide +kernel) rfl, tb6 174 (by decide +kernel) rfl, tb1 8 (by decide +kernel) rfl, tb6 175 (by decide +kernel) rfl, by decide +kernel, by decide +kernel, by decide +kernel, by decide⟩
theorem cw_L_170 : CW RL 170 5 mX6_shift := ⟨tb3 231 (by decide +kernel) rfl, tb3 232 (by decide +kernel) rfl, tb3 233 (by decide +kernel) rfl, tb1 1 (by decide +kernel) rfl, tb3 234 (by decide +kernel) rfl, by decide +kernel, by decide +kernel, by decide +kernel, by decide⟩
theorem cw_L_174 : CW RL 174 5 mX7_shift := ⟨tb6 176 (by decide +kernel) rfl, tb6 177 (by decide +kernel) rfl, tb6 178 (by decide +kernel) rfl, tb1 8 (by decide +kernel) rfl, tb6 179 (by decide +kernel) rfl, by decide +kernel, by decide +kernel, by decide +kernel, by decide⟩
theorem cs_X0_32 : CSt RX0 32 2 mX0_ownerOf := ⟨tb3 191 (by decide +kernel) rfl, tb3 192 (by decide +kernel) rfl, tb1 6 (by decide +kernel) rfl, tb3 193 (by decide +kernel) rfl, by decide +kernel, by decide +kernel, by decide +kernel, by decide⟩
theorem cw_X0_28 : CW RX0 28 4 mX0_run := ⟨tb3 187 (by decide +kernel) rfl, tb3 189 (by decide +kernel) rfl, tbl_sel 12 (q := (yX0_run, 5)) (by decide +kernel), tb1 6 (by decide +kernel) rfl, tb3 190 (by decide +kernel) rfl, by decide +kernel, by decide +kernel, by decide +kernel, by decide⟩
theorem cw_X1_62 : CW RX1 62 1 mX1_copyFrom := ⟨tb3 45 (by decide +kernel) rfl, tb3 46 (by decide +kernel) rfl, tb3 47 (by decide +kernel) rfl, tb1 3 (by decide +kernel) rfl, tb3 48 (by decide +kernel) rfl, by decide +kernel, by decide +kernel, by decide +kernel, by decide⟩
theorem cw_X1_66 : CW RX1 66 1 mX1_placeOf := ⟨tb3 94 (by decide +kernel) rfl, tb2 55 (by decide +kernel) rfl, tb2 56 (by decide +kernel) rfl, tb1 3 (by decide +kernel) rfl, tb2 57 (by decide +kernel) rfl, by decide +kernel, by decide +kernel, by decide +kernel, by decide⟩
theorem cw_X1_75 : CW RX1 75 1 mX1_above := ⟨tb2 66 (by decide +kernel) rfl, tb2 59 (by decide +kernel) rfl, tb2 60 (by decide +kernel) rfl, tb1 3 (by decide +kernel) rfl, tb2 61 (by decide +kernel) rfl, by decide +kernel, by decide +kernel, by decide +kernel, by decide⟩
theorem cw_X1_87 : CW RX1 87 0 mX1_height := ⟨tb3 19 (by decide +kernel) rfl, tb3 12 (by decide +kernel) rfl, tb3 13 (by decide +kernel) rfl, tb1 3 (by decide +kernel) rfl, tb3 14 (by decide +kernel) rfl, by decide +kernel, by decide +kernel, by decide +kernel, by decide⟩
theorem cw_X1_91 : CW RX1 91 2 mX2_heart := ⟨tb2 50 (by decide +kernel) rfl, tb2 43 (by decide +kernel) rfl, tb2 44 (by decide +kernel) rfl, tb1 2 (by decide +kernel) rfl, tb2 45 (by decide +kernel) rfl, by decide +kernel, by decide +kernel, by decide +kernel, by decide⟩
theorem cw_X1_95 : CW RX1 95 1 mX1_load := ⟨tb3 32 (by decide +kernel) rfl, tb2 63 (by decide +kernel) rfl, tb2 64 (by decide +kernel) rfl, tb1 3 (by decide +kernel) rfl, tb2 65 (by decide +kernel) rfl, by decide +kernel, by decide +kernel, by decide +kernel, by decide⟩
theorem cw_X1_98 : CW RX1 98 1 mX1_strength := ⟨tb3 33 (by decide +kernel) rfl, tb2 47 (by decide +kernel) rfl, tb2 48 (by decide +kernel) rfl, tb1 3 (by decide +kernel) rfl, tb2 49 (by decide +kernel) rfl, by decide +kernel, by decide +kernel, by decide +kernel, by decide⟩
theorem cw_X1_101 : CW RX1 101 0 mX1_breaking := ⟨tb3 28 (by decide +kernel) rfl, tb3 29 (by decide +kernel) rfl, tb3 30 (by decide +kernel) rfl, tb1 3 (by decide +kernel) rfl, tb3 31 (by decide +kernel) rfl, by decide +kernel, by decide +kernel, by decide +kernel, by decide⟩
theorem cw_X1_108 : CW RX1 108 0 mX1_miles := ⟨tb3 36 (by decide +kernel) rfl, tb3 16 (by decide +kernel) rfl, tb3 17 (by decide +kernel) rfl, tb1 3 (by decide +kernel) rfl, tb3 18 (by decide +kernel) rfl, by decide +kernel, by decide +kernel, by decide +kernel, by decide⟩
theorem cw_X1_111 : CW RX1 111 0 mX1_dayGoes := ⟨tb3 72 (by decide +kernel) rfl, tb3 25 (by decide +kernel) rfl, tb3 26 (by decide +kernel) rfl, tb1 3 (by decide +kernel) rfl, tb3 27 (by decide +kernel) rfl, by decide +kernel, by decide +kernel, by decide +kernel, by decide⟩
theorem cw_X2_22 : CW RX2 22 0 mX2_becomeCalm := ⟨tb1 30 (by decide +kernel) rfl, tb1 31 (by decide +kernel) rfl, tb1 32 (by decide +kernel) rfl, tb1 2 (by decide +kernel) rfl, tb1 33 (by decide +kernel) rfl, by decide +kernel, by decide +kernel, by decide +kernel, by decide⟩
theorem cw_X5_21 : CW RX5 21 0 mX2_becomeCalm := ⟨tb2 107 (by decide +kernel) rfl, tb1 31 (by decide +kernel) rfl, tb1 32 (by decide +kernel) rfl, tb1 2 (by decide +kernel) rfl, tb1 33 (by decide +kernel) rfl, by decide +kernel, by decide +kernel, by decide +kernel, by decide⟩
theorem cw_X5_29 : CW RX5 29 0 mX5_readsClause := ⟨tb2 108 (by decide +kernel) rfl, tb2 110 (by decide +kernel) rfl, tbl_sel 0 (q := (yX5_readsClause, 4)) (by decide +kernel), tb1 5 (by decide +kernel) rfl, tb2 111 (by decide +kernel) rfl, by decide +kernel, by decide +kernel, by decide +kernel, by decide⟩
theorem cw_X5_33 : CW RX5 33 1 mX5_takes := ⟨tb2 158 (by decide +kernel) rfl, tb2 160 (by decide +kernel) rfl, tbl_sel 2 (q := (yX5_takes, 4)) (by decide +kernel), tb1 5 (by decide +kernel) rfl, tb2 161 (by decide +kernel) rfl, by decide +kernel, by decide +kernel, by decide +kernel, by decide⟩
theorem cw_X5_37 : CW RX5 37 0 mX5_takesWord := ⟨tb2 112 (by decide +kernel) rfl, tb2 114 (by decide +kernel) rfl, tbl_sel 1 (q := (yX5_takesWord, 4)) (by decide +kernel), tb1 5 (by decide +kernel) rfl, tb2 115 (by decide +kernel) rfl, by decide +kernel, by decide +kernel, by decide +kernel, by decide⟩
theorem cw_X5_41 : CW RX5 41 0 mX5_takesNumber := ⟨tb2 162 (by decide +kernel) rfl, tb2 164 (by decide +kernel) rfl, tbl_sel 3 (q := (yX5_takesNumber, 4)) (by decide +kernel), tb1 5 (by decide +kernel) rfl, tb2 165 (by decide +kernel) rfl, by decide +kernel, by decide +kernel, by decide +kernel, by decide⟩
theorem cw_X5_50 : CW RX5 50 1 mX5_readsAny := ⟨tb2 166 (by decide +kernel) rfl, tb2 168 (by decide +kernel) rfl, tbl_sel 4 (q := (yX5_readsAny, 4)) (by decide +kernel), tb1 5 (by decide +kernel) rfl, tb2 169 (by decide +kernel) rfl, by decide +kernel, by decide +kernel, by decide +kernel, by decide⟩
theorem cw_X5_53 : CW RX5 53 3 mX2_add := ⟨tb2 178 (by decide +kernel) rfl, tb2 179 (by decide +kernel) rfl, tb2 180 (by decide +kernel) rfl, tb1 2 (by decide +kernel) rfl, tb2 181 (by decide +kernel) rfl, by decide +kernel, by decide +kernel, by decide +kernel, by decide⟩
theorem cw_X5_57 : CW RX5 57 1 mX5_readsAll := ⟨tb2 170 (by decide +kernel) rfl, tb2 172 (by decide +kernel) rfl, tbl_sel 5 (q := (yX5_readsAll, 4)) (by decide +kernel), tb1 5 (by decide +kernel) rfl, tb2 173 (by decide +kernel) rfl, by decide +kernel, by decide +kernel, by decide +kernel, by decide⟩
theorem cw_X5_60 : CW RX5 60 1 mX5_readsOne := ⟨tb2 174 (by decide +kernel) rfl, tb2 176 (by decide +kernel) rfl, tbl_sel 6 (q := (yX5_readsOne, 4)) (by decide +kernel), tb1 5 (by decide +kernel) rfl, tb2 177 (by decide +kernel) rfl, by decide +kernel, by decide +kernel, by decide +kernel, by decide⟩
theorem cs_X6_78 : CSt RX6 78 3 mX6_within := ⟨tb2 27 (by decide +kernel) rfl, tb2 28 (by decide +kernel) rfl, tb1 1 (by decide +kernel) rfl, tb2 29 (by decide +kernel) rfl, by decide +kernel, by decide +kernel, by decide +kernel, by decide⟩
theorem cs_X6_237 : CSt RX6 237 3 mX6_inLowestTerms := ⟨tb3 133 (by decide +kernel) rfl, tb3 134 (by decide +kernel) rfl, tb1 1 (by decide +kernel) rfl, tb3 135 (by decide +kernel) rfl, by decide +kernel, by decide +kernel, by decide +kernel, by decide⟩
theorem cw_X6_86 : CW RX6 86 3 mX1_take := ⟨tb2 30 (by decide +kernel) rfl, tb2 31 (by decide +kernel) rfl, tb2 32 (by decide +kernel) rfl, tb1 3 (by decide +kernel) rfl, tb2 33 (by decide +kernel) rfl, by decide +kernel, by decide +kernel, by decide +kernel, by decide⟩
theorem cw_X6_90 : CW RX6 90 1 mX1_has := ⟨tb2 38 (by decide +kernel) rfl, tb2 39 (by decide +kernel) rfl, tb2 40 (by decide +kernel) rfl, tb1 3 (by decide +kernel) rfl, tb2 41 (by decide +kernel) rfl, by decide +kernel, by decide +kernel, by decide +kernel, by decide⟩
theorem cw_X6_114 : CW RX6 114 2 mX2_heart := ⟨tb2 42 (by decide +kernel) rfl, tb2 43 (by decide +kernel) rfl, tb2 44 (by decide +kernel) rfl, tb1 2 (by decide +kernel) rfl, tb2 45 (by decide +kernel) rfl, by decide +kernel, by decide +kernel, by decide +kernel, by decide⟩
theorem cw_X6_118 : CW RX6 118 1 mX1_strength := ⟨tb2 46 (by decide +kernel) rfl, tb2 47 (by decide +kernel) rfl, tb2 48 (by decide +kernel) rfl, tb1 3 (by decide +kernel) rfl, tb2 49 (by decide +kernel) rfl, by decide +kernel, by decide +kernel, by decide +kernel, by decide⟩
theorem cw_X6_122 : CW RX6 122 1 mX1_placeOf := ⟨tb2 54 (by decide +kernel) rfl, tb2 55 (by decide +kernel) rfl, tb2 56 (by decide +kernel) rfl, tb1 3 (by decide +kernel) rfl, tb2 57 (by decide +kernel) rfl, by decide +kernel, by decide +kernel, by decide +kernel, by decide⟩
theorem cw_X6_125 : CW RX6 125 1 mX1_above := ⟨tb2 58 (by decide +kernel) rfl, tb2 59 (by decide +kernel) rfl, tb2 60 (by decide +kernel) rfl, tb1 3 (by decide +kernel) rfl, tb2 61 (by decide +kernel) rfl, by decide +kernel, by decide +kernel, by decide +kernel, by decide⟩
theorem cw_X6_128 : CW RX6 128 1 mX1_load := ⟨tb2 62 (by decide +kernel) rfl, tb2 63 (by decide +kernel) rfl, tb2 64 (by decide +kernel) rfl, tb1 3 (by decide +kernel) rfl, tb2 65 (by decide +kernel) rfl, by decide +kernel, by decide +kernel, by decide +kernel, by decide⟩
theorem cw_X6_137 : CW RX6 137 1 mX1_putUpon := ⟨tb2 79 (by decide +kernel) rfl, tb2 80 (by decide +kernel) rfl, tb2 81 (by decide +kernel) rfl, tb1 3 (by decide +kernel) rfl, tb2 82 (by decide +kernel) rfl, by decide +kernel, by decide +kernel, by decide +kernel, by decide⟩
theorem cw_X6_146 : CW RX6 146 1 mX5_add := ⟨tb2 95 (by decide +kernel) rfl, tb2 96 (by decide +kernel) rfl, tb2 97 (by decide +kernel) rfl, tb1 5 (by decide +kernel) rfl, tb2 98 (by decide +kernel) rfl, by decide +kernel, by decide +kernel, by decide +kernel, by decide⟩
theorem cw_X6_156 : CW RX6 156 1 mX5_readInto := ⟨tb2 103 (by decide +kernel) rfl, tb2 104 (by decide +kernel) rfl, tb2 105 (by decide +kernel) rfl, tb1 5 (by decide +kernel) rfl, tb2 106 (by decide +kernel) rfl, by decide +kernel, by decide +kernel, by decide +kernel, by decide⟩
theorem cw_X6_172 : CW RX6 172 0 mX1_height := ⟨tb3 11 (by decide +kernel) rfl, tb3 12 (by decide +kernel) rfl, tb3 13 (by decide +kernel) rfl, tb1 3 (by decide +kernel) rfl, tb3 14 (by decide +kernel) rfl, by decide +kernel, by decide +kernel, by decide +kernel, by decide⟩
theorem cw_X6_176 : CW RX6 176 0 mX1_miles := ⟨tb3 15 (by decide +kernel) rfl, tb3 16 (by decide +kernel) rfl, tb3 17 (by decide +kernel) rfl, tb1 3 (by decide +kernel) rfl, tb3 18 (by decide +kernel) rfl, by decide +kernel, by decide +kernel, by decide +kernel, by decide⟩
theorem cw_X6_182 : CW RX6 182 0 mX1_dayGoes := ⟨tb3 24 (by decide +kernel) rfl, tb3 25 (by decide +kernel) rfl, tb3 26 (by decide +kernel) rfl, tb1 3 (by decide +kernel) rfl, tb3 27 (by decide +kernel) rfl, by decide +kernel, by decide +kernel, by decide +kernel, by decide⟩
theorem cw_X6_185 : CW RX6 185 1 mX1_startFrom := ⟨tb3 41 (by decide +kernel) rfl, tb3 42 (by decide +kernel) rfl, tb3 43 (by decide +kernel) rfl, tb1 3 (by decide +kernel) rfl, tb3 44 (by decide +kernel) rfl, by decide +kernel, by decide +kernel, by decide +kernel, by decide⟩
theorem cw_X6_189 : CW RX6 189 1 mX1_nothingBreaksIn := ⟨tb3 68 (by decide +kernel) rfl, tb3 69 (by decide +kernel) rfl, tb3 70 (by decide +kernel) rfl, tb1 3 (by decide +kernel) rfl, tb3 71 (by decide +kernel) rfl, by decide +kernel, by decide +kernel, by decide +kernel, by decide⟩
theorem cw_X6_192 : CW RX6 192 1 mX6_bestRow := ⟨tb3 77 (by decide +kernel) rfl, tb3 79 (by decide +kernel) rfl, tbl_sel 7 (q := (yX6_bestRow, 15)) (by decide +kernel), tb1 1 (by decide +kernel) rfl, tb3 80 (by decide +kernel) rfl, by decide +kernel, by decide +kernel, by decide +kernel, by decide⟩
theorem cw_X6_195 : CW RX6 195 2 mX6_worth := ⟨tb3 81 (by decide +kernel) rfl, tb3 83 (by decide +kernel) rfl, tbl_sel 8 (q := (yX6_worth, 15)) (by decide +kernel), tb1 1 (by decide +kernel) rfl, tb3 84 (by decide +kernel) rfl, by decide +kernel, by decide +kernel, by decide +kernel, by decide⟩
theorem cw_X6_199 : CW RX6 199 1 mX1_lashRow := ⟨tb3 85 (by decide +kernel) rfl, tb3 86 (by decide +kernel) rfl, tb3 87 (by decide +kernel) rfl, tb1 3 (by decide +kernel) rfl, tb3 88 (by decide +kernel) rfl, by decide +kernel, by decide +kernel, by decide +kernel, by decide⟩
theorem cw_X6_202 : CW RX6 202 0 mX1_breaking := ⟨tb3 89 (by decide +kernel) rfl, tb3 29 (by decide +kernel) rfl, tb3 30 (by decide +kernel) rfl, tb1 3 (by decide +kernel) rfl, tb3 31 (by decide +kernel) rfl, by decide +kernel, by decide +kernel, by decide +kernel, by decide⟩
theorem cw_X6_205 : CW RX6 205 1 mX1_standsOfTheSame := ⟨tb3 90 (by decide +kernel) rfl, tb3 91 (by decide +kernel) rfl, tb3 92 (by decide +kernel) rfl, tb1 3 (by decide +kernel) rfl, tb3 93 (by decide +kernel) rfl, by decide +kernel, by decide +kernel, by decide +kernel, by decide⟩
theorem cw_X6_209 : CW RX6 209 0 mX3_clear := ⟨tb3 103 (by decide +kernel) rfl, tb3 104 (by decide +kernel) rfl, tb3 105 (by decide +kernel) rfl, tb1 4 (by decide +kernel) rfl, tb3 106 (by decide +kernel) rfl, by decide +kernel, by decide +kernel, by decide +kernel, by decide⟩
theorem cw_X6_212 : CW RX6 212 2 mX3_add := ⟨tb3 107 (by decide +kernel) rfl, tb3 108 (by decide +kernel) rfl, tb3 109 (by decide +kernel) rfl, tb1 4 (by decide +kernel) rfl, tb3 110 (by decide +kernel) rfl, by decide +kernel, by decide +kernel, by decide +kernel, by decide⟩
theorem cw_X6_216 : CW RX6 216 4 mX6_fitting := ⟨tb3 115 (by decide +kernel) rfl, tb3 117 (by decide +kernel) rfl, tbl_sel 9 (q := (yX6_fitting, 15)) (by decide +kernel), tb1 1 (by decide +kernel) rfl, tb3 118 (by decide +kernel) rfl, by decide +kernel, by decide +kernel, by decide +kernel, by decide⟩
theorem cw_X6_220 : CW RX6 220 0 mX6_seenIsSo := ⟨tb3 119 (by decide +kernel) rfl, tb3 121 (by decide +kernel) rfl, tbl_sel 10 (q := (yX6_seenIsSo, 15)) (by decide +kernel), tb1 1 (by decide +kernel) rfl, tb3 122 (by decide +kernel) rfl, by decide +kernel, by decide +kernel, by decide +kernel, by decide⟩
theorem cw_X6_241 : CW RX6 241 2 mX6_followPlan := ⟨tb3 148 (by decide +kernel) rfl, tb3 150 (by decide +kernel) rfl, tbl_sel 11 (q := (yX6_followPlan, 15)) (by decide +kernel), tb1 1 (by decide +kernel) rfl, tb3 151 (by decide +kernel) rfl, by decide +kernel, by decide +kernel, by decide +kernel, by decide⟩
theorem cw_X6_253 : CW RX6 253 1 mX1_copyFrom := ⟨tb3 168 (by decide +kernel) rfl, tb3 46 (by decide +kernel) rfl, tb3 47 (by decide +kernel) rfl, tb1 3 (by decide +kernel) rfl, tb3 48 (by decide +kernel) rfl, by decide +kernel, by decide +kernel, by decide +kernel, by decide⟩
theorem cw_X6_256 : CW RX6 256 1 mX3_copyFrom := ⟨tb3 169 (by decide +kernel) rfl, tb3 170 (by decide +kernel) rfl, tb3 171 (by decide +kernel) rfl, tb1 4 (by decide +kernel) rfl, tb3 172 (by decide +kernel) rfl, by decide +kernel, by decide +kernel, by decide +kernel, by decide⟩
theorem cw_X6_266 : CW RX6 266 5 mX0_start := ⟨tb3 183 (by decide +kernel) rfl, tb3 184 (by decide +kernel) rfl, tb3 185 (by decide +kernel) rfl, tb1 6 (by decide +kernel) rfl, tb3 186 (by decide +kernel) rfl, by decide +kernel, by decide +kernel, by decide +kernel, by decide⟩
theorem cw_X6_276 : CW RX6 276 2 mX4_become := ⟨tb3 215 (by decide +kernel) rfl, tb3 216 (by decide +kernel) rfl, tb3 217 (by decide +kernel) rfl, tb1 7 (by decide +kernel) rfl, tb3 218 (by decide +kernel) rfl, by decide +kernel, by decide +kernel, by decide +kernel, by decide⟩
theorem cw_X6_279 : CW RX6 279 1 mX4_cut := ⟨tb3 223 (by decide +kernel) rfl, tb3 224 (by decide +kernel) rfl, tb3 225 (by decide +kernel) rfl, tb1 7 (by decide +kernel) rfl, tb3 226 (by decide +kernel) rfl, by decide +kernel, by decide +kernel, by decide +kernel, by decide⟩
theorem cw_X7_276 : CW RX7 276 3 mX7_in := ⟨tb5 30 (by decide +kernel) rfl, tb5 32 (by decide +kernel) rfl, tbl_sel 13 (q := (yX7_in, 87)) (by decide +kernel), tb1 8 (by decide +kernel) rfl, tb5 33 (by decide +kernel) rfl, by decide +kernel, by decide +kernel, by decide +kernel, by decide⟩
theorem cw_X7_280 : CW RX7 280 1 mX7_isPiece := ⟨tb5 38 (by decide +kernel) rfl, tb5 40 (by decide +kernel) rfl, tbl_sel 14 (q := (yX7_isPiece, 87)) (by decide +kernel), tb1 8 (by decide +kernel) rfl, tb5 41 (by decide +kernel) rfl, by decide +kernel, by decide +kernel, by decide +kernel, by decide⟩
theorem cw_X7_284 : CW RX7 284 1 mX7_isFeet := ⟨tb5 42 (by decide +kernel) rfl, tb5 44 (by decide +kernel) rfl, tbl_sel 15 (q := (yX7_isFeet, 87)) (by decide +kernel), tb1 8 (by decide +kernel) rfl, tb5 45 (by decide +kernel) rfl, by decide +kernel, by decide +kernel, by decide +kernel, by decide⟩
theorem cw_X7_287 : CW RX7 287 1 mX7_placeOf := ⟨tb5 54 (by decide +kernel) rfl, tb5 56 (by decide +kernel) rfl, tbl_sel 16 (q := (yX7_placeOf, 87)) (by decide +kernel), tb1 8 (by decide +kernel) rfl, tb5 57 (by decide +kernel) rfl, by decide +kernel, by decide +kernel, by decide +kernel, by decide⟩
theorem cw_X7_291 : CW RX7 291 1 mX7_hoists := ⟨tb5 58 (by decide +kernel) rfl, tb5 60 (by decide +kernel) rfl, tbl_sel 17 (q := (yX7_hoists, 87)) (by decide +kernel), tb1 8 (by decide +kernel) rfl, tb5 61 (by decide +kernel) rfl, by decide +kernel, by decide +kernel, by decide +kernel, by decide⟩
theorem cw_X7_295 : CW RX7 295 1 mX7_isTrim := ⟨tb5 70 (by decide +kernel) rfl, tb5 72 (by decide +kernel) rfl, tbl_sel 18 (q := (yX7_isTrim, 87)) (by decide +kernel), tb1 8 (by decide +kernel) rfl, tb5 73 (by decide +kernel) rfl, by decide +kernel, by decide +kernel, by decide +kernel, by decide⟩
theorem cw_X7_298 : CW RX7 298 0 mX7_next := ⟨tb5 94 (by decide +kernel) rfl, tb5 96 (by decide +kernel) rfl, tbl_sel 22 (q := (yX7_next, 87)) (by decide +kernel), tb1 8 (by decide +kernel) rfl, tb5 97 (by decide +kernel) rfl, by decide +kernel, by decide +kernel, by decide +kernel, by decide⟩
theorem cw_X7_302 : CW RX7 302 1 mX7_takes := ⟨tb5 102 (by decide +kernel) rfl, tb5 104 (by decide +kernel) rfl, tbl_sel 24 (q := (yX7_takes, 87)) (by decide +kernel), tb1 8 (by decide +kernel) rfl, tb5 105 (by decide +kernel) rfl, by decide +kernel, by decide +kernel, by decide +kernel, by decide⟩
theorem cw_X7_305 : CW RX7 305 0 mX7_isDigit := ⟨tb5 114 (by decide +kernel) rfl, tb5 116 (by decide +kernel) rfl, tbl_sel 27 (q := (yX7_isDigit, 87)) (by decide +kernel), tb1 8 (by decide +kernel) rfl, tb5 117 (by decide +kernel) rfl, by decide +kernel, by decide +kernel, by decide +kernel, by decide⟩
theorem cw_X7_309 : CW RX7 309 1 mX7_emits := ⟨tb5 130 (by decide +kernel) rfl, tb5 132 (by decide +kernel) rfl, tbl_sel 31 (q := (yX7_emits, 87)) (by decide +kernel), tb1 8 (by decide +kernel) rfl, tb5 133 (by decide +kernel) rfl, by decide +kernel, by decide +kernel, by decide +kernel, by decide⟩
theorem cw_X7_312 : CW RX7 312 1 mX7_place := ⟨tb5 126 (by decide +kernel) rfl, tb5 128 (by decide +kernel) rfl, tbl_sel 30 (q := (yX7_place, 87)) (by decide +kernel), tb1 8 (by decide +kernel) rfl, tb5 129 (by decide +kernel) rfl, by decide +kernel, by decide +kernel, by decide +kernel, by decide⟩
theorem cw_X7_315 : CW RX7 315 0 mX7_takesNumber := ⟨tb5 110 (by decide +kernel) rfl, tb5 112 (by decide +kernel) rfl, tbl_sel 26 (q := (yX7_takesNumber, 87)) (by decide +kernel), tb1 8 (by decide +kernel) rfl, tb5 113 (by decide +kernel) rfl, by decide +kernel, by decide +kernel, by decide +kernel, by decide⟩
theorem cw_X7_318 : CW RX7 318 0 mX7_whole := ⟨tb5 134 (by decide +kernel) rfl, tb5 136 (by decide +kernel) rfl, tbl_sel 32 (q := (yX7_whole, 87)) (by decide +kernel), tb1 8 (by decide +kernel) rfl, tb5 137 (by decide +kernel) rfl, by decide +kernel, by decide +kernel, by decide +kernel, by decide⟩
theorem cw_X7_321 : CW RX7 321 0 mX7_takesTest := ⟨tb5 122 (by decide +kernel) rfl, tb5 124 (by decide +kernel) rfl, tbl_sel 29 (q := (yX7_takesTest, 87)) (by decide +kernel), tb1 8 (by decide +kernel) rfl, tb5 125 (by decide +kernel) rfl, by decide +kernel, by decide +kernel, by decide +kernel, by decide⟩
theorem cw_X7_324 : CW RX7 324 1 mX7_settle := ⟨tb5 138 (by decide +kernel) rfl, tb5 140 (by decide +kernel) rfl, tbl_sel 33 (q := (yX7_settle, 87)) (by decide +kernel), tb1 8 (by decide +kernel) rfl, tb5 141 (by decide +kernel) rfl, by decide +kernel, by decide +kernel, by decide +kernel, by decide⟩
theorem cw_X7_327 : CW RX7 327 2 mX7_takesWord := ⟨tb5 98 (by decide +kernel) rfl, tb5 100 (by decide +kernel) rfl, tbl_sel 23 (q := (yX7_takesWord, 87)) (by decide +kernel), tb1 8 (by decide +kernel) rfl, tb5 101 (by decide +kernel) rfl, by decide +kernel, by decide +kernel, by decide +kernel, by decide⟩
theorem cw_X7_331 : CW RX7 331 0 mX7_second := ⟨tb5 106 (by decide +kernel) rfl, tb5 108 (by decide +kernel) rfl, tbl_sel 25 (q := (yX7_second, 87)) (by decide +kernel), tb1 8 (by decide +kernel) rfl, tb5 109 (by decide +kernel) rfl, by decide +kernel, by decide +kernel, by decide +kernel, by decide⟩
theorem cw_X7_334 : CW RX7 334 1 mX7_takesHead := ⟨tb5 90 (by decide +kernel) rfl, tb5 92 (by decide +kernel) rfl, tbl_sel 21 (q := (yX7_takesHead, 87)) (by decide +kernel), tb1 8 (by decide +kernel) rfl, tb5 93 (by decide +kernel) rfl, by decide +kernel, by decide +kernel, by decide +kernel, by decide⟩
theorem cw_X7_337 : CW RX7 337 1 mX7_takesE := ⟨tb5 118 (by decide +kernel) rfl, tb5 120 (by decide +kernel) rfl, tbl_sel 28 (q := (yX7_takesE, 87)) (by decide +kernel), tb1 8 (by decide +kernel) rfl, tb5 121 (by decide +kernel) rfl, by decide +kernel, by decide +kernel, by decide +kernel, by decide⟩
theorem cw_X7_340 : CW RX7 340 1 mX7_takesClause := ⟨tb5 86 (by decide +kernel) rfl, tb5 88 (by decide +kernel) rfl, tbl_sel 20 (q := (yX7_takesClause, 87)) (by decide +kernel), tb1 8 (by decide +kernel) rfl, tb5 89 (by decide +kernel) rfl, by decide +kernel, by decide +kernel, by decide +kernel, by decide⟩
theorem cw_X7_343 : CW RX7 343 1 mX7_goesText := ⟨tb5 82 (by decide +kernel) rfl, tb5 84 (by decide +kernel) rfl, tbl_sel 19 (q := (yX7_goesText, 87)) (by decide +kernel), tb1 8 (by decide +kernel) rfl, tb5 85 (by decide +kernel) rfl, by decide +kernel, by decide +kernel, by decide +kernel, by decide⟩
theorem cw_X7_346 : CW RX7 346 0 mX7_begin := ⟨tb5 150 (by decide +kernel) rfl, tb5 152 (by decide +kernel) rfl, tbl_sel 35 (q := (yX7_begin, 87)) (by decide +kernel), tb1 8 (by decide +kernel) rfl, tb5 153 (by decide +kernel) rfl, by decide +kernel, by decide +kernel, by decide +kernel, by decide⟩
theorem cw_X7_349 : CW RX7 349 0 mX7_behind := ⟨tb5 154 (by decide +kernel) rfl, tb5 156 (by decide +kernel) rfl, tbl_sel 36 (q := (yX7_behind, 87)) (by decide +kernel), tb1 8 (by decide +kernel) rfl, tb5 157 (by decide +kernel) rfl, by decide +kernel, by decide +kernel, by decide +kernel, by decide⟩
theorem cw_X7_352 : CW RX7 352 2 mX7_factOf := ⟨tb5 162 (by decide +kernel) rfl, tb5 164 (by decide +kernel) rfl, tbl_sel 38 (q := (yX7_factOf, 87)) (by decide +kernel), tb1 8 (by decide +kernel) rfl, tb5 165 (by decide +kernel) rfl, by decide +kernel, by decide +kernel, by decide +kernel, by decide⟩
theorem cw_X7_356 : CW RX7 356 2 mX7_holds := ⟨tb5 158 (by decide +kernel) rfl, tb5 160 (by decide +kernel) rfl, tbl_sel 37 (q := (yX7_holds, 87)) (by decide +kernel), tb1 8 (by decide +kernel) rfl, tb5 161 (by decide +kernel) rfl, by decide +kernel, by decide +kernel, by decide +kernel, by decide⟩
theorem cw_X7_359 : CW RX7 359 1 mX7_heart := ⟨tb5 146 (by decide +kernel) rfl, tb5 148 (by decide +kernel) rfl, tbl_sel 34 (q := (yX7_heart, 87)) (by decide +kernel), tb1 8 (by decide +kernel) rfl, tb5 149 (by decide +kernel) rfl, by decide +kernel, by decide +kernel, by decide +kernel, by decide⟩
theorem cw_X7_362 : CW RX7 362 1 mX7_least0 := ⟨tb5 170 (by decide +kernel) rfl, tb5 172 (by decide +kernel) rfl, tbl_sel 40 (q := (yX7_least0, 87)) (by decide +kernel), tb1 8 (by decide +kernel) rfl, tb5 173 (by decide +kernel) rfl, by decide +kernel, by decide +kernel, by decide +kernel, by decide⟩
theorem cw_X7_365 : CW RX7 365 2 mX7_lastOf := ⟨tb5 178 (by decide +kernel) rfl, tb5 180 (by decide +kernel) rfl, tbl_sel 42 (q := (yX7_lastOf, 87)) (by decide +kernel), tb1 8 (by decide +kernel) rfl, tb5 181 (by decide +kernel) rfl, by decide +kernel, by decide +kernel, by decide +kernel, by decide⟩
theorem cw_X7_368 : CW RX7 368 1 mX7_above := ⟨tb5 174 (by decide +kernel) rfl, tb5 176 (by decide +kernel) rfl, tbl_sel 41 (q := (yX7_above, 87)) (by decide +kernel), tb1 8 (by decide +kernel) rfl, tb5 177 (by decide +kernel) rfl, by decide +kernel, by decide +kernel, by decide +kernel, by decide⟩
theorem cw_X7_371 : CW RX7 371 0 mX7_height := ⟨tb5 190 (by decide +kernel) rfl, tb5 192 (by decide +kernel) rfl, tbl_sel 44 (q := (yX7_height, 87)) (by decide +kernel), tb1 8 (by decide +kernel) rfl, tb5 193 (by decide +kernel) rfl, by decide +kernel, by decide +kernel, by decide +kernel, by decide⟩
theorem cw_X7_374 : CW RX7 374 1 mX7_strength := ⟨tb5 166 (by decide +kernel) rfl, tb5 168 (by decide +kernel) rfl, tbl_sel 39 (q := (yX7_strength, 87)) (by decide +kernel), tb1 8 (by decide +kernel) rfl, tb5 169 (by decide +kernel) rfl, by decide +kernel, by decide +kernel, by decide +kernel, by decide⟩
theorem cw_X7_377 : CW RX7 377 1 mX7_load := ⟨tb5 182 (by decide +kernel) rfl, tb5 184 (by decide +kernel) rfl, tbl_sel 43 (q := (yX7_load, 87)) (by decide +kernel), tb1 8 (by decide +kernel) rfl, tb5 185 (by decide +kernel) rfl, by decide +kernel, by decide +kernel, by decide +kernel, by decide⟩
theorem cw_X7_380 : CW RX7 380 0 mX7_milesNow := ⟨tb5 194 (by decide +kernel) rfl, tb5 196 (by decide +kernel) rfl, tbl_sel 45 (q := (yX7_milesNow, 87)) (by decide +kernel), tb1 8 (by decide +kernel) rfl, tb5 197 (by decide +kernel) rfl, by decide +kernel, by decide +kernel, by decide +kernel, by decide⟩
theorem cw_X7_383 : CW RX7 383 2 mX7_least := ⟨tb5 222 (by decide +kernel) rfl, tb5 224 (by decide +kernel) rfl, tbl_sel 51 (q := (yX7_least, 87)) (by decide +kernel), tb1 8 (by decide +kernel) rfl, tb5 225 (by decide +kernel) rfl, by decide +kernel, by decide +kernel, by decide +kernel, by decide⟩
theorem cw_X7_386 : CW RX7 386 0 mX7_breaksAt := ⟨tb5 214 (by decide +kernel) rfl, tb5 216 (by decide +kernel) rfl, tbl_sel 49 (q := (yX7_breaksAt, 87)) (by decide +kernel), tb1 8 (by decide +kernel) rfl, tb5 217 (by decide +kernel) rfl, by decide +kernel, by decide +kernel, by decide +kernel, by decide⟩
theorem cw_X7_389 : CW RX7 389 0 mX7_goWear := ⟨tb5 218 (by decide +kernel) rfl, tb5 220 (by decide +kernel) rfl, tbl_sel 50 (q := (yX7_goWear, 87)) (by decide +kernel), tb1 8 (by decide +kernel) rfl, tb5 221 (by decide +kernel) rfl, by decide +kernel, by decide +kernel, by decide +kernel, by decide⟩
theorem cw_X7_392 : CW RX7 392 0 mX7_goDay := ⟨tb5 210 (by decide +kernel) rfl, tb5 212 (by decide +kernel) rfl, tbl_sel 48 (q := (yX7_goDay, 87)) (by decide +kernel), tb1 8 (by decide +kernel) rfl, tb5 213 (by decide +kernel) rfl, by decide +kernel, by decide +kernel, by decide +kernel, by decide⟩
theorem cw_X7_395 : CW RX7 395 1 mX7_isDays := ⟨tb5 202 (by decide +kernel) rfl, tb5 204 (by decide +kernel) rfl, tbl_sel 46 (q := (yX7_isDays, 87)) (by decide +kernel), tb1 8 (by decide +kernel) rfl, tb5 205 (by decide +kernel) rfl, by decide +kernel, by decide +kernel, by decide +kernel, by decide⟩
theorem cw_X7_398 : CW RX7 398 1 mX7_goDays := ⟨tb5 206 (by decide +kernel) rfl, tb5 208 (by decide +kernel) rfl, tbl_sel 47 (q := (yX7_goDays, 87)) (by decide +kernel), tb1 8 (by decide +kernel) rfl, tb5 209 (by decide +kernel) rfl, by decide +kernel, by decide +kernel, by decide +kernel, by decide⟩
theorem cw_X7_402 : CW RX7 402 0 mX7_save := ⟨tb5 230 (by decide +kernel) rfl, tb5 232 (by decide +kernel) rfl, tbl_sel 52 (q := (yX7_save, 87)) (by decide +kernel), tb1 8 (by decide +kernel) rfl, tb5 233 (by decide +kernel) rfl, by decide +kernel, by decide +kernel, by decide +kernel, by decide⟩
theorem cw_X7_405 : CW RX7 405 0 mX7_putBack := ⟨tb5 235 (by decide +kernel) rfl, tb5 237 (by decide +kernel) rfl, tbl_sel 53 (q := (yX7_putBack, 87)) (by decide +kernel), tb1 8 (by decide +kernel) rfl, tb5 238 (by decide +kernel) rfl, by decide +kernel, by decide +kernel, by decide +kernel, by decide⟩
theorem cw_X7_408 : CW RX7 408 1 mX7_firstThen := ⟨tb6 3 (by decide +kernel) rfl, tb6 5 (by decide +kernel) rfl, tbl_sel 54 (q := (yX7_firstThen, 87)) (by decide +kernel), tb1 8 (by decide +kernel) rfl, tb6 6 (by decide +kernel) rfl, by decide +kernel, by decide +kernel, by decide +kernel, by decide⟩
theorem cw_X7_411 : CW RX7 411 1 mX7_wentThen := ⟨tb6 15 (by decide +kernel) rfl, tb6 17 (by decide +kernel) rfl, tbl_sel 55 (q := (yX7_wentThen, 87)) (by decide +kernel), tb1 8 (by decide +kernel) rfl, tb6 18 (by decide +kernel) rfl, by decide +kernel, by decide +kernel, by decide +kernel, by decide⟩
theorem cw_X7_414 : CW RX7 414 5 mX7_tries := ⟨tb6 31 (by decide +kernel) rfl, tb6 33 (by decide +kernel) rfl, tbl_sel 57 (q := (yX7_tries, 87)) (by decide +kernel), tb1 8 (by decide +kernel) rfl, tb6 34 (by decide +kernel) rfl, by decide +kernel, by decide +kernel, by decide +kernel, by decide⟩
theorem cw_X7_418 : CW RX7 418 1 mX7_layBest := ⟨tb6 27 (by decide +kernel) rfl, tb6 29 (by decide +kernel) rfl, tbl_sel 56 (q := (yX7_layBest, 87)) (by decide +kernel), tb1 8 (by decide +kernel) rfl, tb6 30 (by decide +kernel) rfl, by decide +kernel, by decide +kernel, by decide +kernel, by decide⟩
theorem cw_X7_421 : CW RX7 421 1 mX7_layOrder := ⟨tb6 39 (by decide +kernel) rfl, tb6 41 (by decide +kernel) rfl, tbl_sel 58 (q := (yX7_layOrder, 87)) (by decide +kernel), tb1 8 (by decide +kernel) rfl, tb6 42 (by decide +kernel) rfl, by decide +kernel, by decide +kernel, by decide +kernel, by decide⟩
theorem cw_X7_424 : CW RX7 424 0 mX7_isSeen := ⟨tb6 51 (by decide +kernel) rfl, tb6 53 (by decide +kernel) rfl, tbl_sel 59 (q := (yX7_isSeen, 87)) (by decide +kernel), tb1 8 (by decide +kernel) rfl, tb6 54 (by decide +kernel) rfl, by decide +kernel, by decide +kernel, by decide +kernel, by decide⟩
theorem cw_X7_427 : CW RX7 427 2 mX7_divisor := ⟨tb6 68 (by decide +kernel) rfl, tb6 70 (by decide +kernel) rfl, tbl_sel 61 (q := (yX7_divisor, 87)) (by decide +kernel), tb1 8 (by decide +kernel) rfl, tb6 71 (by decide +kernel) rfl, by decide +kernel, by decide +kernel, by decide +kernel, by decide⟩
theorem cw_X7_432 : CW RX7 432 3 mX7_lowest := ⟨tb6 64 (by decide +kernel) rfl, tb6 66 (by decide +kernel) rfl, tbl_sel 60 (q := (yX7_lowest, 87)) (by decide +kernel), tb1 8 (by decide +kernel) rfl, tb6 67 (by decide +kernel) rfl, by decide +kernel, by decide +kernel, by decide +kernel, by decide⟩
theorem cw_X7_436 : CW RX7 436 2 mX7_goPlan := ⟨tb6 84 (by decide +kernel) rfl, tb6 86 (by decide +kernel) rfl, tbl_sel 62 (q := (yX7_goPlan, 87)) (by decide +kernel), tb1 8 (by decide +kernel) rfl, tb6 87 (by decide +kernel) rfl, by decide +kernel, by decide +kernel, by decide +kernel, by decide⟩
theorem cw_X7_440 : CW RX7 440 1 mX7_isTape := ⟨tb6 100 (by decide +kernel) rfl, tb6 102 (by decide +kernel) rfl, tbl_sel 63 (q := (yX7_isTape, 87)) (by decide +kernel), tb1 8 (by decide +kernel) rfl, tb6 103 (by decide +kernel) rfl, by decide +kernel, by decide +kernel, by decide +kernel, by decide⟩
theorem cw_X7_443 : CW RX7 443 1 mX7_body := ⟨tb6 120 (by decide +kernel) rfl, tb6 122 (by decide +kernel) rfl, tbl_sel 65 (q := (yX7_body, 87)) (by decide +kernel), tb1 8 (by decide +kernel) rfl, tb6 123 (by decide +kernel) rfl, by decide +kernel, by decide +kernel, by decide +kernel, by decide⟩
theorem cw_X7_446 : CW RX7 446 2 mX7_pieceBends := ⟨tb6 124 (by decide +kernel) rfl, tb6 126 (by decide +kernel) rfl, tbl_sel 66 (q := (yX7_pieceBends, 87)) (by decide +kernel), tb1 8 (by decide +kernel) rfl, tb6 127 (by decide +kernel) rfl, by decide +kernel, by decide +kernel, by decide +kernel, by decide⟩
theorem cw_X7_449 : CW RX7 449 2 mX7_bendsAct := ⟨tb6 116 (by decide +kernel) rfl, tb6 118 (by decide +kernel) rfl, tbl_sel 64 (q := (yX7_bendsAct, 87)) (by decide +kernel), tb1 8 (by decide +kernel) rfl, tb6 119 (by decide +kernel) rfl, by decide +kernel, by decide +kernel, by decide +kernel, by decide⟩
theorem cw_X7_452 : CW RX7 452 2 mX7_pieceHolds := ⟨tb6 136 (by decide +kernel) rfl, tb6 138 (by decide +kernel) rfl, tbl_sel 69 (q := (yX7_pieceHolds, 87)) (by decide +kernel), tb1 8 (by decide +kernel) rfl, tb6 139 (by decide +kernel) rfl, by decide +kernel, by decide +kernel, by decide +kernel, by decide⟩
theorem cw_X7_455 : CW RX7 455 2 mX7_oarHolds := ⟨tb6 132 (by decide +kernel) rfl, tb6 134 (by decide +kernel) rfl, tbl_sel 68 (q := (yX7_oarHolds, 87)) (by decide +kernel), tb1 8 (by decide +kernel) rfl, tb6 135 (by decide +kernel) rfl, by decide +kernel, by decide +kernel, by decide +kernel, by decide⟩
theorem cw_X7_458 : CW RX7 458 2 mX7_holdsAct := ⟨tb6 128 (by decide +kernel) rfl, tb6 130 (by decide +kernel) rfl, tbl_sel 67 (q := (yX7_holdsAct, 87)) (by decide +kernel), tb1 8 (by decide +kernel) rfl, tb6 131 (by decide +kernel) rfl, by decide +kernel, by decide +kernel, by decide +kernel, by decide⟩
theorem cw_X7_461 : CW RX7 461 2 mX7_pieceTells := ⟨tb6 144 (by decide +kernel) rfl, tb6 146 (by decide +kernel) rfl, tbl_sel 71 (q := (yX7_pieceTells, 87)) (by decide +kernel), tb1 8 (by decide +kernel) rfl, tb6 147 (by decide +kernel) rfl, by decide +kernel, by decide +kernel, by decide +kernel, by decide⟩
theorem cw_X7_464 : CW RX7 464 2 mX7_tellsAct := ⟨tb6 140 (by decide +kernel) rfl, tb6 142 (by decide +kernel) rfl, tbl_sel 70 (q := (yX7_tellsAct, 87)) (by decide +kernel), tb1 8 (by decide +kernel) rfl, tb6 143 (by decide +kernel) rfl, by decide +kernel, by decide +kernel, by decide +kernel, by decide⟩
theorem cw_X7_467 : CW RX7 467 2 mX7_narrow := ⟨tb6 168 (by decide +kernel) rfl, tb6 170 (by decide +kernel) rfl, tbl_sel 72 (q := (yX7_narrow, 87)) (by decide +kernel), tb1 8 (by decide +kernel) rfl, tb6 171 (by decide +kernel) rfl, by decide +kernel, by decide +kernel, by decide +kernel, by decide⟩
theorem cn_X1_107 : Cond.constant RX1 107 (99999) ∈ TBL := tb3 35 (by decide +kernel) rfl
theorem cn_X6_235 : Cond.constantLong RX6 235 (-9223372036854775808) ∈ TBL := tb3 132 (by decide +kernel) rfl
theorem cn_X7_105 : Cond.constant RX7 105 (99999) ∈ TBL := tb4 2 (by decide +kernel) rfl
theorem cn_X7_401 : Cond.constant RX7 401 (2000000000) ∈ TBL := tb5 234 (by decide +kernel) rfl
theorem cn_X7_430 : Cond.constantLong RX7 430 (-9223372036854775808) ∈ TBL := tb6 63 (by decide +kernel) rfl
theorem cn_L_159 : Cond.constantLong RL 159 (4294967295) ∈ TBL := tb6 180 (by decide +kernel) rfl
theorem ms_max : Cond.static Lib.Math.max.name ∈ TBL := tb2 52 (by decide +kernel) rfl
theorem mc_max : Cond.code Lib.Math.max.name Lib.Math.max.code 2 (some .int) ∈ TBL := tb2 53 (by decide +kernel) rfl
theorem ms_min : Cond.static Lib.Math.min.name ∈ TBL := tb2 207 (by decide +kernel) rfl
theorem mc_min : Cond.code Lib.Math.min.name Lib.Math.min.code 2 (some .int) ∈ TBL := tb2 208 (by decide +kernel) rfl
theorem ini_Math : Cond.initialized "java/lang/Math" ∈ TBL := tb1 9 (by decide +kernel) rfl
theorem ini_Sys : Cond.initialized "java/lang/System" ∈ TBL := tb1 15 (by decide +kernel) rfl
theorem ac_nat : Cond.native arraycopyName ∈ TBL := tb3 51 (by decide +kernel) rfl
theorem ac_st : Cond.static arraycopyName ∈ TBL := tb3 50 (by decide +kernel) rfl
theorem ml_X1_41 : Cond.methodLink RX1 41 arraycopyName ∈ TBL := tb3 49 (by decide +kernel) rfl
theorem ml_X1_81 : Cond.methodLink RX1 81 Lib.Math.max.name ∈ TBL := tb2 51 (by decide +kernel) rfl
theorem ml_X1_104 : Cond.methodLink RX1 104 Lib.Math.min.name ∈ TBL := tb3 34 (by decide +kernel) rfl
theorem ml_X3_20 : Cond.methodLink RX3 20 Lib.Math.min.name ∈ TBL := tb3 173 (by decide +kernel) rfl
theorem ml_X3_26 : Cond.methodLink RX3 26 arraycopyName ∈ TBL := tb3 174 (by decide +kernel) rfl
theorem ml_X5_77 : Cond.methodLink RX5 77 Lib.Math.max.name ∈ TBL := tb2 157 (by decide +kernel) rfl
theorem ml_X6_227 : Cond.methodLink RX6 227 Lib.Math.max.name ∈ TBL := tb3 123 (by decide +kernel) rfl
theorem ml_X6_283 : Cond.methodLink RX6 283 arraycopyName ∈ TBL := tb3 235 (by decide +kernel) rfl
theorem gs_X0_36 : Cond.fieldLink RX0 36 RX0 "BODIES" "[I" ∈ TBL := tb3 194 (by decide +kernel) rfl
theorem gs_X6_273 : Cond.fieldLink RX6 273 RX6 "KIND_ABOVE" "[I" ∈ TBL := tb3 206 (by decide +kernel) rfl
theorem ic_m1 : Int32.ofInt (-1) = (-1) := by decide
theorem ic_0 : Int32.ofInt 0 = 0 := by decide
theorem ic_1 : Int32.ofInt 1 = 1 := by decide
theorem ic_2 : Int32.ofInt 2 = 2 := by decide
theorem ic_3 : Int32.ofInt 3 = 3 := by decide
theorem ic_4 : Int32.ofInt 4 = 4 := by decide
theorem ic_5 : Int32.ofInt 5 = 5 := by decide
theorem ic_6 : Int32.ofInt 6 = 6 := by decide
theorem ic_10 : Int32.ofInt 10 = 10 := by decide
theorem bp_m38 : (Int8.ofInt (-38)).toInt32 = (-38) := by decide
theorem bp_m33 : (Int8.ofInt (-33)).toInt32 = (-33) := by decide
theorem bp_m14 : (Int8.ofInt (-14)).toInt32 = (-14) := by decide
theorem bp_m13 : (Int8.ofInt (-13)).toInt32 = (-13) := by decide
theorem bp_m12 : (Int8.ofInt (-12)).toInt32 = (-12) := by decide
theorem bp_m11 : (Int8.ofInt (-11)).toInt32 = (-11) := by decide
theorem bp_m10 : (Int8.ofInt (-10)).toInt32 = (-10) := by decide
theorem bp_m5 : (Int8.ofInt (-5)).toInt32 = (-5) := by decide
theorem bp_m4 : (Int8.ofInt (-4)).toInt32 = (-4) := by decide
theorem bp_m3 : (Int8.ofInt (-3)).toInt32 = (-3) := by decide
theorem bp_m2 : (Int8.ofInt (-2)).toInt32 = (-2) := by decide
theorem bp_6 : (Int8.ofInt 6).toInt32 = 6 := by decide
theorem bp_7 : (Int8.ofInt 7).toInt32 = 7 := by decide
theorem bp_8 : (Int8.ofInt 8).toInt32 = 8 := by decide
theorem bp_9 : (Int8.ofInt 9).toInt32 = 9 := by decide
theorem bp_10 : (Int8.ofInt 10).toInt32 = 10 := by decide
theorem bp_11 : (Int8.ofInt 11).toInt32 = 11 := by decide
theorem bp_12 : (Int8.ofInt 12).toInt32 = 12 := by decide
theorem bp_13 : (Int8.ofInt 13).toInt32 = 13 := by decide
theorem bp_14 : (Int8.ofInt 14).toInt32 = 14 := by decide
theorem bp_15 : (Int8.ofInt 15).toInt32 = 15 := by decide
theorem bp_16 : (Int8.ofInt 16).toInt32 = 16 := by decide
theorem bp_17 : (Int8.ofInt 17).toInt32 = 17 := by decide
theorem bp_19 : (Int8.ofInt 19).toInt32 = 19 := by decide
theorem bp_20 : (Int8.ofInt 20).toInt32 = 20 := by decide
theorem bp_24 : (Int8.ofInt 24).toInt32 = 24 := by decide
theorem bp_30 : (Int8.ofInt 30).toInt32 = 30 := by decide
theorem bp_32 : (Int8.ofInt 32).toInt32 = 32 := by decide
theorem bp_33 : (Int8.ofInt 33).toInt32 = 33 := by decide
theorem bp_36 : (Int8.ofInt 36).toInt32 = 36 := by decide
theorem bp_38 : (Int8.ofInt 38).toInt32 = 38 := by decide
theorem bp_40 : (Int8.ofInt 40).toInt32 = 40 := by decide
theorem bp_41 : (Int8.ofInt 41).toInt32 = 41 := by decide
theorem bp_48 : (Int8.ofInt 48).toInt32 = 48 := by decide
theorem bp_49 : (Int8.ofInt 49).toInt32 = 49 := by decide
theorem bp_50 : (Int8.ofInt 50).toInt32 = 50 := by decide
theorem bp_51 : (Int8.ofInt 51).toInt32 = 51 := by decide
theorem bp_57 : (Int8.ofInt 57).toInt32 = 57 := by decide
theorem bp_59 : (Int8.ofInt 59).toInt32 = 59 := by decide
theorem bp_60 : (Int8.ofInt 60).toInt32 = 60 := by decide
theorem bp_61 : (Int8.ofInt 61).toInt32 = 61 := by decide
theorem bp_62 : (Int8.ofInt 62).toInt32 = 62 := by decide
theorem bp_63 : (Int8.ofInt 63).toInt32 = 63 := by decide
theorem bp_70 : (Int8.ofInt 70).toInt32 = 70 := by decide
theorem bp_71 : (Int8.ofInt 71).toInt32 = 71 := by decide
theorem bp_97 : (Int8.ofInt 97).toInt32 = 97 := by decide
theorem bp_99 : (Int8.ofInt 99).toInt32 = 99 := by decide
theorem bp_100 : (Int8.ofInt 100).toInt32 = 100 := by decide
theorem bp_101 : (Int8.ofInt 101).toInt32 = 101 := by decide
theorem bp_102 : (Int8.ofInt 102).toInt32 = 102 := by decide
theorem bp_104 : (Int8.ofInt 104).toInt32 = 104 := by decide
theorem bp_105 : (Int8.ofInt 105).toInt32 = 105 := by decide
theorem bp_107 : (Int8.ofInt 107).toInt32 = 107 := by decide
theorem bp_108 : (Int8.ofInt 108).toInt32 = 108 := by decide
theorem bp_109 : (Int8.ofInt 109).toInt32 = 109 := by decide
theorem bp_110 : (Int8.ofInt 110).toInt32 = 110 := by decide
theorem bp_114 : (Int8.ofInt 114).toInt32 = 114 := by decide
theorem bp_115 : (Int8.ofInt 115).toInt32 = 115 := by decide
theorem bp_119 : (Int8.ofInt 119).toInt32 = 119 := by decide
theorem bp_124 : (Int8.ofInt 124).toInt32 = 124 := by decide
theorem bp_127 : (Int8.ofInt 127).toInt32 = 127 := by decide
theorem sp_m1001 : (Int16.ofInt (-1001)).toInt32 = (-1001) := by decide
theorem sp_216 : (Int16.ofInt 216).toInt32 = 216 := by decide
theorem sp_255 : (Int16.ofInt 255).toInt32 = 255 := by decide
theorem sp_294 : (Int16.ofInt 294).toInt32 = 294 := by decide
theorem sp_360 : (Int16.ofInt 360).toInt32 = 360 := by decide
theorem sp_600 : (Int16.ofInt 600).toInt32 = 600 := by decide
theorem sp_1000 : (Int16.ofInt 1000).toInt32 = 1000 := by decide
theorem sp_1023 : (Int16.ofInt 1023).toInt32 = 1023 := by decide
theorem sp_9999 : (Int16.ofInt 9999).toInt32 = 9999 := by decide

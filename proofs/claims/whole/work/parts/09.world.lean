def jKS : jK := [(11, 10), (7, 2), (22, 9), (20, 24), (20, 24), (20, 24), (20, 24), (20, 24), (20, 24), (20, 24), (20, 24), (20, 24), (2, 6), (20, 40), (20, 40), (20, 40), (20, 40), (6, 10), (20, 120), (20, 121), (20, 121), (20, 121), (20, 6), (3, 6), (4, 6), (5, 3), (20, 24), (20, 24), (20, 5), (20, 24), (20, 5), (10, 8), (5, 3), (20, 24), (20, 24), (20, 10), (20, 10), (8, 7), (5, 3), (20, 24), (20, 24), (22, 7), (20, 24), (20, 24), (20, 24), (20, 24), (20, 24), (20, 24), (20, 24), (20, 7), (20, 7), (1, 5), (5, 3), (20, 24), (20, 24), (20, 8), (20, 8), (9, 4), (20, 6), (20, 6), (20, 6), (23, 6), (21, 60), (21, 60), (21, 60), (21, 60), (21, 60), (21, 60), (0, 5), (20, 50), (20, 24), (12, 53), (20, 125), (20, 40), (20, 40), (20, 40), (20, 24), (20, 120), (20, 120), (20, 6), (20, 24), (20, 7), (20, 7), (20, 24), (20, 4), (24, 256), (20, 30), (20, 50), (20, 24), (20, 6), (20, 6), (21, 360), (21, 60)]
def jRT : List (List (Option Nat)) := [[some 1, some 12, some 17, some 23, some 24, some 31, some 37, some 51, some 57, some 68], [some 2, none], [some 3, some 4, some 5, some 6, some 7, some 8, some 9, some 10, some 11], [], [], [], [], [], [], [], [], [], [some 13, some 14, some 15, some 16, none, none], [], [], [], [], [some 18, some 19, some 20, some 21, some 22, none, none, none, none, none], [], [], [], [], [], [some 1, some 17, none, none, none, none], [some 25, some 28, some 29, some 30, none, none], [some 26, some 27, none], [], [], [], [], [], [some 1, some 23, some 32, some 35, some 36, none, none, none], [some 33, some 34, none], [], [], [], [], [some 1, some 23, some 38, some 41, some 49, some 50, none], [some 39, some 40, none], [], [], [some 42, some 43, some 44, some 45, some 46, some 47, some 48], [], [], [], [], [], [], [], [], [], [some 1, some 23, some 52, some 55, some 56], [some 53, some 54, none], [], [], [], [], [some 58, some 59, some 60, some 61], [], [], [], [some 62, some 63, some 64, some 65, some 66, some 67], [], [], [], [], [], [], [some 69, some 70, none, none, none], [], [], [some 72, some 73, some 74, some 75, none, none, none, some 76, none, some 77, none, some 78, none, none, none, none, none, none, some 79, some 80, none, none, none, none, none, none, some 81, some 82, none, some 83, none, none, none, some 84, none, some 85, none, none, none, none, none, none, some 86, none, some 87, some 88, none, none, none, some 89, some 90, some 91, some 92], [], [], [], [], [], [], [], [], [], [], [], [], [], [], [], [], [], [], [], [], []]
def jR0 : jR := fun r i => (jRT.getD r []).getD i none
theorem ks_0 : jKS[0]? = some (11, 10) := rfl
theorem ks_1 : jKS[1]? = some (7, 2) := rfl
theorem ks_2 : jKS[2]? = some (22, 9) := rfl
theorem ks_3 : jKS[3]? = some (20, 24) := rfl
theorem ks_4 : jKS[4]? = some (20, 24) := rfl
theorem ks_5 : jKS[5]? = some (20, 24) := rfl
theorem ks_6 : jKS[6]? = some (20, 24) := rfl
theorem ks_7 : jKS[7]? = some (20, 24) := rfl
theorem ks_8 : jKS[8]? = some (20, 24) := rfl
theorem ks_9 : jKS[9]? = some (20, 24) := rfl
theorem ks_10 : jKS[10]? = some (20, 24) := rfl
theorem ks_11 : jKS[11]? = some (20, 24) := rfl
theorem ks_12 : jKS[12]? = some (2, 6) := rfl
theorem ks_13 : jKS[13]? = some (20, 40) := rfl
theorem ks_14 : jKS[14]? = some (20, 40) := rfl
theorem ks_15 : jKS[15]? = some (20, 40) := rfl
theorem ks_16 : jKS[16]? = some (20, 40) := rfl
theorem ks_17 : jKS[17]? = some (6, 10) := rfl
theorem ks_18 : jKS[18]? = some (20, 120) := rfl
theorem ks_19 : jKS[19]? = some (20, 121) := rfl
theorem ks_20 : jKS[20]? = some (20, 121) := rfl
theorem ks_21 : jKS[21]? = some (20, 121) := rfl
theorem ks_22 : jKS[22]? = some (20, 6) := rfl
theorem ks_23 : jKS[23]? = some (3, 6) := rfl
theorem ks_24 : jKS[24]? = some (4, 6) := rfl
theorem ks_25 : jKS[25]? = some (5, 3) := rfl
theorem ks_26 : jKS[26]? = some (20, 24) := rfl
theorem ks_27 : jKS[27]? = some (20, 24) := rfl
theorem ks_28 : jKS[28]? = some (20, 5) := rfl
theorem ks_29 : jKS[29]? = some (20, 24) := rfl
theorem ks_30 : jKS[30]? = some (20, 5) := rfl
theorem ks_31 : jKS[31]? = some (10, 8) := rfl
theorem ks_32 : jKS[32]? = some (5, 3) := rfl
theorem ks_33 : jKS[33]? = some (20, 24) := rfl
theorem ks_34 : jKS[34]? = some (20, 24) := rfl
theorem ks_35 : jKS[35]? = some (20, 10) := rfl
theorem ks_36 : jKS[36]? = some (20, 10) := rfl
theorem ks_37 : jKS[37]? = some (8, 7) := rfl
theorem ks_38 : jKS[38]? = some (5, 3) := rfl
theorem ks_39 : jKS[39]? = some (20, 24) := rfl
theorem ks_40 : jKS[40]? = some (20, 24) := rfl
theorem ks_41 : jKS[41]? = some (22, 7) := rfl
theorem ks_42 : jKS[42]? = some (20, 24) := rfl
theorem ks_43 : jKS[43]? = some (20, 24) := rfl
theorem ks_44 : jKS[44]? = some (20, 24) := rfl
theorem ks_45 : jKS[45]? = some (20, 24) := rfl
theorem ks_46 : jKS[46]? = some (20, 24) := rfl
theorem ks_47 : jKS[47]? = some (20, 24) := rfl
theorem ks_48 : jKS[48]? = some (20, 24) := rfl
theorem ks_49 : jKS[49]? = some (20, 7) := rfl
theorem ks_50 : jKS[50]? = some (20, 7) := rfl
theorem ks_51 : jKS[51]? = some (1, 5) := rfl
theorem ks_52 : jKS[52]? = some (5, 3) := rfl
theorem ks_53 : jKS[53]? = some (20, 24) := rfl
theorem ks_54 : jKS[54]? = some (20, 24) := rfl
theorem ks_55 : jKS[55]? = some (20, 8) := rfl
theorem ks_56 : jKS[56]? = some (20, 8) := rfl
theorem ks_57 : jKS[57]? = some (9, 4) := rfl
theorem ks_58 : jKS[58]? = some (20, 6) := rfl
theorem ks_59 : jKS[59]? = some (20, 6) := rfl
theorem ks_60 : jKS[60]? = some (20, 6) := rfl
theorem ks_61 : jKS[61]? = some (23, 6) := rfl
theorem ks_62 : jKS[62]? = some (21, 60) := rfl
theorem ks_63 : jKS[63]? = some (21, 60) := rfl
theorem ks_64 : jKS[64]? = some (21, 60) := rfl
theorem ks_65 : jKS[65]? = some (21, 60) := rfl
theorem ks_66 : jKS[66]? = some (21, 60) := rfl
theorem ks_67 : jKS[67]? = some (21, 60) := rfl
theorem ks_68 : jKS[68]? = some (0, 5) := rfl
theorem ks_69 : jKS[69]? = some (20, 50) := rfl
theorem ks_70 : jKS[70]? = some (20, 24) := rfl
theorem ks_71 : jKS[71]? = some (12, 53) := rfl
theorem ks_72 : jKS[72]? = some (20, 125) := rfl
theorem ks_73 : jKS[73]? = some (20, 40) := rfl
theorem ks_74 : jKS[74]? = some (20, 40) := rfl
theorem ks_75 : jKS[75]? = some (20, 40) := rfl
theorem ks_76 : jKS[76]? = some (20, 24) := rfl
theorem ks_77 : jKS[77]? = some (20, 120) := rfl
theorem ks_78 : jKS[78]? = some (20, 120) := rfl
theorem ks_79 : jKS[79]? = some (20, 6) := rfl
theorem ks_80 : jKS[80]? = some (20, 24) := rfl
theorem ks_81 : jKS[81]? = some (20, 7) := rfl
theorem ks_82 : jKS[82]? = some (20, 7) := rfl
theorem ks_83 : jKS[83]? = some (20, 24) := rfl
theorem ks_84 : jKS[84]? = some (20, 4) := rfl
theorem ks_85 : jKS[85]? = some (24, 256) := rfl
theorem ks_86 : jKS[86]? = some (20, 30) := rfl
theorem ks_87 : jKS[87]? = some (20, 50) := rfl
theorem ks_88 : jKS[88]? = some (20, 24) := rfl
theorem ks_89 : jKS[89]? = some (20, 6) := rfl
theorem ks_90 : jKS[90]? = some (20, 6) := rfl
theorem ks_91 : jKS[91]? = some (21, 360) := rfl
theorem ks_92 : jKS[92]? = some (21, 60) := rfl
theorem rr_0_0 : jR0 0 0 = some 1 := rfl
theorem rr_0_1 : jR0 0 1 = some 12 := rfl
theorem rr_0_2 : jR0 0 2 = some 17 := rfl
theorem rr_0_3 : jR0 0 3 = some 23 := rfl
theorem rr_0_4 : jR0 0 4 = some 24 := rfl
theorem rr_0_5 : jR0 0 5 = some 31 := rfl
theorem rr_0_6 : jR0 0 6 = some 37 := rfl
theorem rr_0_7 : jR0 0 7 = some 51 := rfl
theorem rr_0_8 : jR0 0 8 = some 57 := rfl
theorem rr_0_9 : jR0 0 9 = some 68 := rfl
theorem rr_1_0 : jR0 1 0 = some 2 := rfl
theorem rr_2_0 : jR0 2 0 = some 3 := rfl
theorem rr_2_1 : jR0 2 1 = some 4 := rfl
theorem rr_2_2 : jR0 2 2 = some 5 := rfl
theorem rr_2_3 : jR0 2 3 = some 6 := rfl
theorem rr_2_4 : jR0 2 4 = some 7 := rfl
theorem rr_2_5 : jR0 2 5 = some 8 := rfl
theorem rr_2_6 : jR0 2 6 = some 9 := rfl
theorem rr_2_7 : jR0 2 7 = some 10 := rfl
theorem rr_2_8 : jR0 2 8 = some 11 := rfl
theorem rr_12_0 : jR0 12 0 = some 13 := rfl
theorem rr_12_1 : jR0 12 1 = some 14 := rfl
theorem rr_12_2 : jR0 12 2 = some 15 := rfl
theorem rr_12_3 : jR0 12 3 = some 16 := rfl
theorem rr_17_0 : jR0 17 0 = some 18 := rfl
theorem rr_17_1 : jR0 17 1 = some 19 := rfl
theorem rr_17_2 : jR0 17 2 = some 20 := rfl
theorem rr_17_3 : jR0 17 3 = some 21 := rfl
theorem rr_17_4 : jR0 17 4 = some 22 := rfl
theorem rr_23_0 : jR0 23 0 = some 1 := rfl
theorem rr_23_1 : jR0 23 1 = some 17 := rfl
theorem rr_24_0 : jR0 24 0 = some 25 := rfl
theorem rr_24_1 : jR0 24 1 = some 28 := rfl
theorem rr_24_2 : jR0 24 2 = some 29 := rfl
theorem rr_24_3 : jR0 24 3 = some 30 := rfl
theorem rr_25_0 : jR0 25 0 = some 26 := rfl
theorem rr_25_1 : jR0 25 1 = some 27 := rfl
theorem rr_31_0 : jR0 31 0 = some 1 := rfl
theorem rr_31_1 : jR0 31 1 = some 23 := rfl
theorem rr_31_2 : jR0 31 2 = some 32 := rfl
theorem rr_31_3 : jR0 31 3 = some 35 := rfl
theorem rr_31_4 : jR0 31 4 = some 36 := rfl
theorem rr_32_0 : jR0 32 0 = some 33 := rfl
theorem rr_32_1 : jR0 32 1 = some 34 := rfl
theorem rr_37_0 : jR0 37 0 = some 1 := rfl
theorem rr_37_1 : jR0 37 1 = some 23 := rfl
theorem rr_37_2 : jR0 37 2 = some 38 := rfl
theorem rr_37_3 : jR0 37 3 = some 41 := rfl
theorem rr_37_4 : jR0 37 4 = some 49 := rfl
theorem rr_37_5 : jR0 37 5 = some 50 := rfl
theorem rr_38_0 : jR0 38 0 = some 39 := rfl
theorem rr_38_1 : jR0 38 1 = some 40 := rfl
theorem rr_41_0 : jR0 41 0 = some 42 := rfl
theorem rr_41_1 : jR0 41 1 = some 43 := rfl
theorem rr_41_2 : jR0 41 2 = some 44 := rfl
theorem rr_41_3 : jR0 41 3 = some 45 := rfl
theorem rr_41_4 : jR0 41 4 = some 46 := rfl
theorem rr_41_5 : jR0 41 5 = some 47 := rfl
theorem rr_41_6 : jR0 41 6 = some 48 := rfl
theorem rr_51_0 : jR0 51 0 = some 1 := rfl
theorem rr_51_1 : jR0 51 1 = some 23 := rfl
theorem rr_51_2 : jR0 51 2 = some 52 := rfl
theorem rr_51_3 : jR0 51 3 = some 55 := rfl
theorem rr_51_4 : jR0 51 4 = some 56 := rfl
theorem rr_52_0 : jR0 52 0 = some 53 := rfl
theorem rr_52_1 : jR0 52 1 = some 54 := rfl
theorem rr_57_0 : jR0 57 0 = some 58 := rfl
theorem rr_57_1 : jR0 57 1 = some 59 := rfl
theorem rr_57_2 : jR0 57 2 = some 60 := rfl
theorem rr_57_3 : jR0 57 3 = some 61 := rfl
theorem rr_61_0 : jR0 61 0 = some 62 := rfl
theorem rr_61_1 : jR0 61 1 = some 63 := rfl
theorem rr_61_2 : jR0 61 2 = some 64 := rfl
theorem rr_61_3 : jR0 61 3 = some 65 := rfl
theorem rr_61_4 : jR0 61 4 = some 66 := rfl
theorem rr_61_5 : jR0 61 5 = some 67 := rfl
theorem rr_68_0 : jR0 68 0 = some 69 := rfl
theorem rr_68_1 : jR0 68 1 = some 70 := rfl
theorem rr_71_0 : jR0 71 0 = some 72 := rfl
theorem rr_71_1 : jR0 71 1 = some 73 := rfl
theorem rr_71_2 : jR0 71 2 = some 74 := rfl
theorem rr_71_3 : jR0 71 3 = some 75 := rfl
theorem rr_71_7 : jR0 71 7 = some 76 := rfl
theorem rr_71_9 : jR0 71 9 = some 77 := rfl
theorem rr_71_11 : jR0 71 11 = some 78 := rfl
theorem rr_71_18 : jR0 71 18 = some 79 := rfl
theorem rr_71_19 : jR0 71 19 = some 80 := rfl
theorem rr_71_26 : jR0 71 26 = some 81 := rfl
theorem rr_71_27 : jR0 71 27 = some 82 := rfl
theorem rr_71_29 : jR0 71 29 = some 83 := rfl
theorem rr_71_33 : jR0 71 33 = some 84 := rfl
theorem rr_71_35 : jR0 71 35 = some 85 := rfl
theorem rr_71_42 : jR0 71 42 = some 86 := rfl
theorem rr_71_44 : jR0 71 44 = some 87 := rfl
theorem rr_71_45 : jR0 71 45 = some 88 := rfl
theorem rr_71_49 : jR0 71 49 = some 89 := rfl
theorem rr_71_50 : jR0 71 50 = some 90 := rfl
theorem rr_71_51 : jR0 71 51 = some 91 := rfl
theorem rr_71_52 : jR0 71 52 = some 92 := rfl

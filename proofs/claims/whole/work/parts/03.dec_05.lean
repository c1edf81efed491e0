theorem dX12_passes_0 : decode cX12_passes 0 = .ok (.iconst 0, 1) := by decide +kernel
theorem dX12_passes_1 : decode cX12_passes 1 = .ok (.istore_n 2, 1) := by decide +kernel
theorem dX12_passes_2 : decode cX12_passes 2 = .ok (.iload_n 2, 1) := by decide +kernel
theorem dX12_passes_3 : decode cX12_passes 3 = .ok (.bipush 24, 2) := by decide +kernel
theorem dX12_passes_5 : decode cX12_passes 5 = .ok (.if_icmp .ge 35, 3) := by decide +kernel
theorem dX12_passes_8 : decode cX12_passes 8 = .ok (.aload_n 0, 1) := by decide +kernel
theorem dX12_passes_9 : decode cX12_passes 9 = .ok (.getfield 36, 3) := by decide +kernel
theorem dX12_passes_12 : decode cX12_passes 12 = .ok (.iload_n 2, 1) := by decide +kernel
theorem dX12_passes_13 : decode cX12_passes 13 = .ok (.aload_n 0, 1) := by decide +kernel
theorem dX12_passes_14 : decode cX12_passes 14 = .ok (.getfield 36, 3) := by decide +kernel
theorem dX12_passes_17 : decode cX12_passes 17 = .ok (.iload_n 2, 1) := by decide +kernel
theorem dX12_passes_18 : decode cX12_passes 18 = .ok (.iaload, 1) := by decide +kernel
theorem dX12_passes_19 : decode cX12_passes 19 = .ok (.iload_n 1, 1) := by decide +kernel
theorem dX12_passes_20 : decode cX12_passes 20 = .ok (.aload_n 0, 1) := by decide +kernel
theorem dX12_passes_21 : decode cX12_passes 21 = .ok (.getfield 11, 3) := by decide +kernel
theorem dX12_passes_24 : decode cX12_passes 24 = .ok (.bipush 24, 2) := by decide +kernel
theorem dX12_passes_26 : decode cX12_passes 26 = .ok (.iload_n 2, 1) := by decide +kernel
theorem dX12_passes_27 : decode cX12_passes 27 = .ok (.iadd, 1) := by decide +kernel
theorem dX12_passes_28 : decode cX12_passes 28 = .ok (.iaload, 1) := by decide +kernel
theorem dX12_passes_29 : decode cX12_passes 29 = .ok (.imul, 1) := by decide +kernel
theorem dX12_passes_30 : decode cX12_passes 30 = .ok (.invokestatic 222, 3) := by decide +kernel
theorem dX12_passes_33 : decode cX12_passes 33 = .ok (.iastore, 1) := by decide +kernel
theorem dX12_passes_34 : decode cX12_passes 34 = .ok (.iinc 2 1, 3) := by decide +kernel
theorem dX12_passes_37 : decode cX12_passes 37 = .ok (.goto (-35), 3) := by decide +kernel
theorem dX12_passes_40 : decode cX12_passes 40 = .ok (.aload_n 0, 1) := by decide +kernel
theorem dX12_passes_41 : decode cX12_passes 41 = .ok (.dup, 1) := by decide +kernel
theorem dX12_passes_42 : decode cX12_passes 42 = .ok (.getfield 210, 3) := by decide +kernel
theorem dX12_passes_45 : decode cX12_passes 45 = .ok (.iload_n 1, 1) := by decide +kernel
theorem dX12_passes_46 : decode cX12_passes 46 = .ok (.iadd, 1) := by decide +kernel
theorem dX12_passes_47 : decode cX12_passes 47 = .ok (.putfield 210, 3) := by decide +kernel
theorem dX12_passes_50 : decode cX12_passes 50 = .ok (.return_, 1) := by decide +kernel
theorem dX12_weakerBy_0 : decode cX12_weakerBy 0 = .ok (.aload_n 0, 1) := by decide +kernel
theorem dX12_weakerBy_1 : decode cX12_weakerBy 1 = .ok (.getfield 81, 3) := by decide +kernel
theorem dX12_weakerBy_4 : decode cX12_weakerBy 4 = .ok (.ifCond .ge 16, 3) := by decide +kernel
theorem dX12_weakerBy_7 : decode cX12_weakerBy 7 = .ok (.iload 4, 2) := by decide +kernel
theorem dX12_weakerBy_9 : decode cX12_weakerBy 9 = .ok (.ifCond .eq 9, 3) := by decide +kernel
theorem dX12_weakerBy_12 : decode cX12_weakerBy 12 = .ok (.iload_n 2, 1) := by decide +kernel
theorem dX12_weakerBy_13 : decode cX12_weakerBy 13 = .ok (.iconst 2, 1) := by decide +kernel
theorem dX12_weakerBy_14 : decode cX12_weakerBy 14 = .ok (.idiv, 1) := by decide +kernel
theorem dX12_weakerBy_15 : decode cX12_weakerBy 15 = .ok (.goto 4, 3) := by decide +kernel
theorem dX12_weakerBy_18 : decode cX12_weakerBy 18 = .ok (.iload_n 2, 1) := by decide +kernel
theorem dX12_weakerBy_19 : decode cX12_weakerBy 19 = .ok (.ireturn, 1) := by decide +kernel
theorem dX12_weakerBy_20 : decode cX12_weakerBy 20 = .ok (.aload_n 0, 1) := by decide +kernel
theorem dX12_weakerBy_21 : decode cX12_weakerBy 21 = .ok (.getfield 33, 3) := by decide +kernel
theorem dX12_weakerBy_24 : decode cX12_weakerBy 24 = .ok (.iconst 0, 1) := by decide +kernel
theorem dX12_weakerBy_25 : decode cX12_weakerBy 25 = .ok (.iload_n 1, 1) := by decide +kernel
theorem dX12_weakerBy_26 : decode cX12_weakerBy 26 = .ok (.iastore, 1) := by decide +kernel
theorem dX12_weakerBy_27 : decode cX12_weakerBy 27 = .ok (.aload_n 0, 1) := by decide +kernel
theorem dX12_weakerBy_28 : decode cX12_weakerBy 28 = .ok (.getfield 33, 3) := by decide +kernel
theorem dX12_weakerBy_31 : decode cX12_weakerBy 31 = .ok (.iconst 1, 1) := by decide +kernel
theorem dX12_weakerBy_32 : decode cX12_weakerBy 32 = .ok (.iload_n 2, 1) := by decide +kernel
theorem dX12_weakerBy_33 : decode cX12_weakerBy 33 = .ok (.iastore, 1) := by decide +kernel
theorem dX12_weakerBy_34 : decode cX12_weakerBy 34 = .ok (.aload_n 0, 1) := by decide +kernel
theorem dX12_weakerBy_35 : decode cX12_weakerBy 35 = .ok (.getfield 33, 3) := by decide +kernel
theorem dX12_weakerBy_38 : decode cX12_weakerBy 38 = .ok (.iconst 2, 1) := by decide +kernel
theorem dX12_weakerBy_39 : decode cX12_weakerBy 39 = .ok (.iload_n 3, 1) := by decide +kernel
theorem dX12_weakerBy_40 : decode cX12_weakerBy 40 = .ok (.iastore, 1) := by decide +kernel
theorem dX12_weakerBy_41 : decode cX12_weakerBy 41 = .ok (.aload_n 0, 1) := by decide +kernel
theorem dX12_weakerBy_42 : decode cX12_weakerBy 42 = .ok (.getfield 33, 3) := by decide +kernel
theorem dX12_weakerBy_45 : decode cX12_weakerBy 45 = .ok (.iconst 3, 1) := by decide +kernel
theorem dX12_weakerBy_46 : decode cX12_weakerBy 46 = .ok (.aload_n 0, 1) := by decide +kernel
theorem dX12_weakerBy_47 : decode cX12_weakerBy 47 = .ok (.iload 5, 2) := by decide +kernel
theorem dX12_weakerBy_49 : decode cX12_weakerBy 49 = .ok (.invokevirtual 149, 3) := by decide +kernel
theorem dX12_weakerBy_52 : decode cX12_weakerBy 52 = .ok (.iastore, 1) := by decide +kernel
theorem dX12_weakerBy_53 : decode cX12_weakerBy 53 = .ok (.aload_n 0, 1) := by decide +kernel
theorem dX12_weakerBy_54 : decode cX12_weakerBy 54 = .ok (.getfield 33, 3) := by decide +kernel
theorem dX12_weakerBy_57 : decode cX12_weakerBy 57 = .ok (.iconst 4, 1) := by decide +kernel
theorem dX12_weakerBy_58 : decode cX12_weakerBy 58 = .ok (.iload 5, 2) := by decide +kernel
theorem dX12_weakerBy_60 : decode cX12_weakerBy 60 = .ok (.bipush 8, 2) := by decide +kernel
theorem dX12_weakerBy_62 : decode cX12_weakerBy 62 = .ok (.irem, 1) := by decide +kernel
theorem dX12_weakerBy_63 : decode cX12_weakerBy 63 = .ok (.iastore, 1) := by decide +kernel
theorem dX12_weakerBy_64 : decode cX12_weakerBy 64 = .ok (.aload_n 0, 1) := by decide +kernel
theorem dX12_weakerBy_65 : decode cX12_weakerBy 65 = .ok (.getfield 33, 3) := by decide +kernel
theorem dX12_weakerBy_68 : decode cX12_weakerBy 68 = .ok (.iconst 5, 1) := by decide +kernel
theorem dX12_weakerBy_69 : decode cX12_weakerBy 69 = .ok (.aload_n 0, 1) := by decide +kernel
theorem dX12_weakerBy_70 : decode cX12_weakerBy 70 = .ok (.getfield 210, 3) := by decide +kernel
theorem dX12_weakerBy_73 : decode cX12_weakerBy 73 = .ok (.iastore, 1) := by decide +kernel
theorem dX12_weakerBy_74 : decode cX12_weakerBy 74 = .ok (.aload_n 0, 1) := by decide +kernel
theorem dX12_weakerBy_75 : decode cX12_weakerBy 75 = .ok (.iconst 0, 1) := by decide +kernel
theorem dX12_weakerBy_76 : decode cX12_weakerBy 76 = .ok (.aload_n 0, 1) := by decide +kernel
theorem dX12_weakerBy_77 : decode cX12_weakerBy 77 = .ok (.getfield 81, 3) := by decide +kernel
theorem dX12_weakerBy_80 : decode cX12_weakerBy 80 = .ok (.invokevirtual 207, 3) := by decide +kernel
theorem dX12_weakerBy_83 : decode cX12_weakerBy 83 = .ok (.istore 6, 2) := by decide +kernel
theorem dX12_weakerBy_85 : decode cX12_weakerBy 85 = .ok (.iload 6, 2) := by decide +kernel
theorem dX12_weakerBy_87 : decode cX12_weakerBy 87 = .ok (.ifCond .ge 7, 3) := by decide +kernel
theorem dX12_weakerBy_90 : decode cX12_weakerBy 90 = .ok (.iconst 0, 1) := by decide +kernel
theorem dX12_weakerBy_91 : decode cX12_weakerBy 91 = .ok (.goto 17, 3) := by decide +kernel
theorem dX12_weakerBy_94 : decode cX12_weakerBy 94 = .ok (.iload 6, 2) := by decide +kernel
theorem dX12_weakerBy_96 : decode cX12_weakerBy 96 = .ok (.bipush 99, 2) := by decide +kernel
theorem dX12_weakerBy_98 : decode cX12_weakerBy 98 = .ok (.if_icmp .le 8, 3) := by decide +kernel
theorem dX12_weakerBy_101 : decode cX12_weakerBy 101 = .ok (.bipush 99, 2) := by decide +kernel
theorem dX12_weakerBy_103 : decode cX12_weakerBy 103 = .ok (.goto 5, 3) := by decide +kernel
theorem dX12_weakerBy_106 : decode cX12_weakerBy 106 = .ok (.iload 6, 2) := by decide +kernel
theorem dX12_weakerBy_108 : decode cX12_weakerBy 108 = .ok (.ireturn, 1) := by decide +kernel
theorem dX12_crossesWith_0 : decode cX12_crossesWith 0 = .ok (.aload_n 0, 1) := by decide +kernel
theorem dX12_crossesWith_1 : decode cX12_crossesWith 1 = .ok (.iload_n 1, 1) := by decide +kernel
theorem dX12_crossesWith_2 : decode cX12_crossesWith 2 = .ok (.iconst 1, 1) := by decide +kernel
theorem dX12_crossesWith_3 : decode cX12_crossesWith 3 = .ok (.invokevirtual 225, 3) := by decide +kernel
theorem dX12_crossesWith_6 : decode cX12_crossesWith 6 = .ok (.iconst 1, 1) := by decide +kernel
theorem dX12_crossesWith_7 : decode cX12_crossesWith 7 = .ok (.if_icmp .ne 7, 3) := by decide +kernel
theorem dX12_crossesWith_10 : decode cX12_crossesWith 10 = .ok (.iconst 1, 1) := by decide +kernel
theorem dX12_crossesWith_11 : decode cX12_crossesWith 11 = .ok (.goto 4, 3) := by decide +kernel
theorem dX12_crossesWith_14 : decode cX12_crossesWith 14 = .ok (.iconst 0, 1) := by decide +kernel
theorem dX12_crossesWith_15 : decode cX12_crossesWith 15 = .ok (.istore 5, 2) := by decide +kernel
theorem dX12_crossesWith_17 : decode cX12_crossesWith 17 = .ok (.aload_n 0, 1) := by decide +kernel
theorem dX12_crossesWith_18 : decode cX12_crossesWith 18 = .ok (.iload_n 1, 1) := by decide +kernel
theorem dX12_crossesWith_19 : decode cX12_crossesWith 19 = .ok (.iconst 0, 1) := by decide +kernel
theorem dX12_crossesWith_20 : decode cX12_crossesWith 20 = .ok (.invokevirtual 225, 3) := by decide +kernel
theorem dX12_crossesWith_23 : decode cX12_crossesWith 23 = .ok (.iload_n 3, 1) := by decide +kernel
theorem dX12_crossesWith_24 : decode cX12_crossesWith 24 = .ok (.iadd, 1) := by decide +kernel
theorem dX12_crossesWith_25 : decode cX12_crossesWith 25 = .ok (.istore 6, 2) := by decide +kernel
theorem dX12_crossesWith_27 : decode cX12_crossesWith 27 = .ok (.iload 5, 2) := by decide +kernel
theorem dX12_crossesWith_29 : decode cX12_crossesWith 29 = .ok (.ifCond .eq 12, 3) := by decide +kernel
theorem dX12_crossesWith_32 : decode cX12_crossesWith 32 = .ok (.iload 6, 2) := by decide +kernel
theorem dX12_crossesWith_34 : decode cX12_crossesWith 34 = .ok (.iconst 1, 1) := by decide +kernel
theorem dX12_crossesWith_35 : decode cX12_crossesWith 35 = .ok (.iadd, 1) := by decide +kernel
theorem dX12_crossesWith_36 : decode cX12_crossesWith 36 = .ok (.iconst 2, 1) := by decide +kernel
theorem dX12_crossesWith_37 : decode cX12_crossesWith 37 = .ok (.idiv, 1) := by decide +kernel
theorem dX12_crossesWith_38 : decode cX12_crossesWith 38 = .ok (.goto 5, 3) := by decide +kernel
theorem dX12_crossesWith_41 : decode cX12_crossesWith 41 = .ok (.iload 6, 2) := by decide +kernel
theorem dX12_crossesWith_43 : decode cX12_crossesWith 43 = .ok (.istore 7, 2) := by decide +kernel
theorem dX12_crossesWith_45 : decode cX12_crossesWith 45 = .ok (.aload_n 0, 1) := by decide +kernel
theorem dX12_crossesWith_46 : decode cX12_crossesWith 46 = .ok (.iload_n 1, 1) := by decide +kernel
theorem dX12_crossesWith_47 : decode cX12_crossesWith 47 = .ok (.iconst 2, 1) := by decide +kernel
theorem dX12_crossesWith_48 : decode cX12_crossesWith 48 = .ok (.invokevirtual 225, 3) := by decide +kernel
theorem dX12_crossesWith_51 : decode cX12_crossesWith 51 = .ok (.iload_n 3, 1) := by decide +kernel
theorem dX12_crossesWith_52 : decode cX12_crossesWith 52 = .ok (.iconst 4, 1) := by decide +kernel
theorem dX12_crossesWith_53 : decode cX12_crossesWith 53 = .ok (.idiv, 1) := by decide +kernel
theorem dX12_crossesWith_54 : decode cX12_crossesWith 54 = .ok (.iadd, 1) := by decide +kernel
theorem dX12_crossesWith_55 : decode cX12_crossesWith 55 = .ok (.istore 8, 2) := by decide +kernel
theorem dX12_crossesWith_57 : decode cX12_crossesWith 57 = .ok (.iconst 1, 1) := by decide +kernel
theorem dX12_crossesWith_58 : decode cX12_crossesWith 58 = .ok (.istore 9, 2) := by decide +kernel
theorem dX12_crossesWith_60 : decode cX12_crossesWith 60 = .ok (.iconst 0, 1) := by decide +kernel
theorem dX12_crossesWith_61 : decode cX12_crossesWith 61 = .ok (.istore 10, 2) := by decide +kernel
theorem dX12_crossesWith_63 : decode cX12_crossesWith 63 = .ok (.iload 10, 2) := by decide +kernel
theorem dX12_crossesWith_65 : decode cX12_crossesWith 65 = .ok (.bipush 8, 2) := by decide +kernel
theorem dX12_crossesWith_67 : decode cX12_crossesWith 67 = .ok (.if_icmp .ge 126, 3) := by decide +kernel
theorem dX12_crossesWith_70 : decode cX12_crossesWith 70 = .ok (.iload 9, 2) := by decide +kernel
theorem dX12_crossesWith_72 : decode cX12_crossesWith 72 = .ok (.ifCond .eq 121, 3) := by decide +kernel
theorem dX12_crossesWith_75 : decode cX12_crossesWith 75 = .ok (.bipush 8, 2) := by decide +kernel
theorem dX12_crossesWith_77 : decode cX12_crossesWith 77 = .ok (.iload_n 2, 1) := by decide +kernel
theorem dX12_crossesWith_78 : decode cX12_crossesWith 78 = .ok (.imul, 1) := by decide +kernel
theorem dX12_crossesWith_79 : decode cX12_crossesWith 79 = .ok (.iload 4, 2) := by decide +kernel
theorem dX12_crossesWith_81 : decode cX12_crossesWith 81 = .ok (.ifCond .eq 11, 3) := by decide +kernel
theorem dX12_crossesWith_84 : decode cX12_crossesWith 84 = .ok (.bipush 7, 2) := by decide +kernel
theorem dX12_crossesWith_86 : decode cX12_crossesWith 86 = .ok (.iload 10, 2) := by decide +kernel
theorem dX12_crossesWith_88 : decode cX12_crossesWith 88 = .ok (.isub, 1) := by decide +kernel
theorem dX12_crossesWith_89 : decode cX12_crossesWith 89 = .ok (.goto 5, 3) := by decide +kernel
theorem dX12_crossesWith_92 : decode cX12_crossesWith 92 = .ok (.iload 10, 2) := by decide +kernel
theorem dX12_crossesWith_94 : decode cX12_crossesWith 94 = .ok (.iadd, 1) := by decide +kernel
theorem dX12_crossesWith_95 : decode cX12_crossesWith 95 = .ok (.istore 11, 2) := by decide +kernel
theorem dX12_crossesWith_97 : decode cX12_crossesWith 97 = .ok (.aload_n 0, 1) := by decide +kernel
theorem dX12_crossesWith_98 : decode cX12_crossesWith 98 = .ok (.iload 11, 2) := by decide +kernel
theorem dX12_crossesWith_100 : decode cX12_crossesWith 100 = .ok (.invokevirtual 149, 3) := by decide +kernel
theorem dX12_crossesWith_103 : decode cX12_crossesWith 103 = .ok (.iload 7, 2) := by decide +kernel
theorem dX12_crossesWith_105 : decode cX12_crossesWith 105 = .ok (.if_icmp .lt 7, 3) := by decide +kernel
theorem dX12_crossesWith_108 : decode cX12_crossesWith 108 = .ok (.iconst 1, 1) := by decide +kernel
theorem dX12_crossesWith_109 : decode cX12_crossesWith 109 = .ok (.goto 4, 3) := by decide +kernel
theorem dX12_crossesWith_112 : decode cX12_crossesWith 112 = .ok (.iconst 0, 1) := by decide +kernel
theorem dX12_crossesWith_113 : decode cX12_crossesWith 113 = .ok (.istore 9, 2) := by decide +kernel
theorem dX12_crossesWith_115 : decode cX12_crossesWith 115 = .ok (.iload 9, 2) := by decide +kernel
theorem dX12_crossesWith_117 : decode cX12_crossesWith 117 = .ok (.ifCond .eq 55, 3) := by decide +kernel
theorem dX12_crossesWith_120 : decode cX12_crossesWith 120 = .ok (.aload_n 0, 1) := by decide +kernel
theorem dX12_crossesWith_121 : decode cX12_crossesWith 121 = .ok (.getfield 36, 3) := by decide +kernel
theorem dX12_crossesWith_124 : decode cX12_crossesWith 124 = .ok (.iload 11, 2) := by decide +kernel
theorem dX12_crossesWith_126 : decode cX12_crossesWith 126 = .ok (.iaload, 1) := by decide +kernel
theorem dX12_crossesWith_127 : decode cX12_crossesWith 127 = .ok (.aload_n 0, 1) := by decide +kernel
theorem dX12_crossesWith_128 : decode cX12_crossesWith 128 = .ok (.iload 7, 2) := by decide +kernel
theorem dX12_crossesWith_130 : decode cX12_crossesWith 130 = .ok (.iload 8, 2) := by decide +kernel
theorem dX12_crossesWith_132 : decode cX12_crossesWith 132 = .ok (.aload_n 0, 1) := by decide +kernel
theorem dX12_crossesWith_133 : decode cX12_crossesWith 133 = .ok (.iload_n 1, 1) := by decide +kernel
theorem dX12_crossesWith_134 : decode cX12_crossesWith 134 = .ok (.iconst 3, 1) := by decide +kernel
theorem dX12_crossesWith_135 : decode cX12_crossesWith 135 = .ok (.invokevirtual 225, 3) := by decide +kernel
theorem dX12_crossesWith_138 : decode cX12_crossesWith 138 = .ok (.iload 5, 2) := by decide +kernel
theorem dX12_crossesWith_140 : decode cX12_crossesWith 140 = .ok (.iload 11, 2) := by decide +kernel
theorem dX12_crossesWith_142 : decode cX12_crossesWith 142 = .ok (.invokevirtual 228, 3) := by decide +kernel
theorem dX12_crossesWith_145 : decode cX12_crossesWith 145 = .ok (.iadd, 1) := by decide +kernel
theorem dX12_crossesWith_146 : decode cX12_crossesWith 146 = .ok (.istore 12, 2) := by decide +kernel
theorem dX12_crossesWith_148 : decode cX12_crossesWith 148 = .ok (.aload_n 0, 1) := by decide +kernel
theorem dX12_crossesWith_149 : decode cX12_crossesWith 149 = .ok (.getfield 36, 3) := by decide +kernel
theorem dX12_crossesWith_152 : decode cX12_crossesWith 152 = .ok (.iload 11, 2) := by decide +kernel
theorem dX12_crossesWith_154 : decode cX12_crossesWith 154 = .ok (.iload 12, 2) := by decide +kernel
theorem dX12_crossesWith_156 : decode cX12_crossesWith 156 = .ok (.bipush 99, 2) := by decide +kernel
theorem dX12_crossesWith_158 : decode cX12_crossesWith 158 = .ok (.if_icmp .le 8, 3) := by decide +kernel
theorem dX12_crossesWith_161 : decode cX12_crossesWith 161 = .ok (.bipush 99, 2) := by decide +kernel
theorem dX12_crossesWith_163 : decode cX12_crossesWith 163 = .ok (.goto 5, 3) := by decide +kernel
theorem dX12_crossesWith_166 : decode cX12_crossesWith 166 = .ok (.iload 12, 2) := by decide +kernel
theorem dX12_crossesWith_168 : decode cX12_crossesWith 168 = .ok (.iastore, 1) := by decide +kernel
theorem dX12_crossesWith_169 : decode cX12_crossesWith 169 = .ok (.goto 18, 3) := by decide +kernel
theorem dX12_crossesWith_172 : decode cX12_crossesWith 172 = .ok (.aload_n 0, 1) := by decide +kernel
theorem dX12_crossesWith_173 : decode cX12_crossesWith 173 = .ok (.getfield 36, 3) := by decide +kernel
theorem dX12_crossesWith_176 : decode cX12_crossesWith 176 = .ok (.iload 11, 2) := by decide +kernel
theorem dX12_crossesWith_178 : decode cX12_crossesWith 178 = .ok (.bipush 99, 2) := by decide +kernel
theorem dX12_crossesWith_180 : decode cX12_crossesWith 180 = .ok (.iastore, 1) := by decide +kernel
theorem dX12_crossesWith_181 : decode cX12_crossesWith 181 = .ok (.aload_n 0, 1) := by decide +kernel
theorem dX12_crossesWith_182 : decode cX12_crossesWith 182 = .ok (.iload 11, 2) := by decide +kernel
theorem dX12_crossesWith_184 : decode cX12_crossesWith 184 = .ok (.putfield 232, 3) := by decide +kernel
theorem dX12_crossesWith_187 : decode cX12_crossesWith 187 = .ok (.iinc 10 1, 3) := by decide +kernel
theorem dX12_crossesWith_190 : decode cX12_crossesWith 190 = .ok (.goto (-127), 3) := by decide +kernel
theorem dX12_crossesWith_193 : decode cX12_crossesWith 193 = .ok (.aload_n 0, 1) := by decide +kernel
theorem dX12_crossesWith_194 : decode cX12_crossesWith 194 = .ok (.iload 5, 2) := by decide +kernel
theorem dX12_crossesWith_196 : decode cX12_crossesWith 196 = .ok (.ifCond .eq 14, 3) := by decide +kernel
theorem dX12_crossesWith_199 : decode cX12_crossesWith 199 = .ok (.iconst 2, 1) := by decide +kernel
theorem dX12_crossesWith_200 : decode cX12_crossesWith 200 = .ok (.aload_n 0, 1) := by decide +kernel
theorem dX12_crossesWith_201 : decode cX12_crossesWith 201 = .ok (.iload_n 1, 1) := by decide +kernel
theorem dX12_crossesWith_202 : decode cX12_crossesWith 202 = .ok (.iconst 3, 1) := by decide +kernel
theorem dX12_crossesWith_203 : decode cX12_crossesWith 203 = .ok (.invokevirtual 225, 3) := by decide +kernel
theorem dX12_crossesWith_206 : decode cX12_crossesWith 206 = .ok (.imul, 1) := by decide +kernel
theorem dX12_crossesWith_207 : decode cX12_crossesWith 207 = .ok (.goto 9, 3) := by decide +kernel
theorem dX12_crossesWith_210 : decode cX12_crossesWith 210 = .ok (.aload_n 0, 1) := by decide +kernel
theorem dX12_crossesWith_211 : decode cX12_crossesWith 211 = .ok (.iload_n 1, 1) := by decide +kernel
theorem dX12_crossesWith_212 : decode cX12_crossesWith 212 = .ok (.iconst 3, 1) := by decide +kernel
theorem dX12_crossesWith_213 : decode cX12_crossesWith 213 = .ok (.invokevirtual 225, 3) := by decide +kernel
theorem dX12_crossesWith_216 : decode cX12_crossesWith 216 = .ok (.invokevirtual 235, 3) := by decide +kernel
theorem dX12_crossesWith_219 : decode cX12_crossesWith 219 = .ok (.iload 9, 2) := by decide +kernel
theorem dX12_crossesWith_221 : decode cX12_crossesWith 221 = .ok (.ireturn, 1) := by decide +kernel
theorem dX12_crosses_0 : decode cX12_crosses 0 = .ok (.aload_n 0, 1) := by decide +kernel
theorem dX12_crosses_1 : decode cX12_crosses 1 = .ok (.iload_n 1, 1) := by decide +kernel
theorem dX12_crosses_2 : decode cX12_crosses 2 = .ok (.iload_n 2, 1) := by decide +kernel
theorem dX12_crosses_3 : decode cX12_crosses 3 = .ok (.iconst 0, 1) := by decide +kernel
theorem dX12_crosses_4 : decode cX12_crosses 4 = .ok (.iconst 0, 1) := by decide +kernel
theorem dX12_crosses_5 : decode cX12_crosses 5 = .ok (.invokevirtual 239, 3) := by decide +kernel
theorem dX12_crosses_8 : decode cX12_crosses 8 = .ok (.ireturn, 1) := by decide +kernel
theorem dX12_bytesIs_0 : decode cX12_bytesIs 0 = .ok (.iload_n 1, 1) := by decide +kernel
theorem dX12_bytesIs_1 : decode cX12_bytesIs 1 = .ok (.invokestatic 110, 3) := by decide +kernel
theorem dX12_bytesIs_4 : decode cX12_bytesIs 4 = .ok (.ifCond .ne 7, 3) := by decide +kernel
theorem dX12_bytesIs_7 : decode cX12_bytesIs 7 = .ok (.iconst (-1), 1) := by decide +kernel
theorem dX12_bytesIs_8 : decode cX12_bytesIs 8 = .ok (.goto 34, 3) := by decide +kernel
theorem dX12_bytesIs_11 : decode cX12_bytesIs 11 = .ok (.aload_n 0, 1) := by decide +kernel
theorem dX12_bytesIs_12 : decode cX12_bytesIs 12 = .ok (.getfield 68, 3) := by decide +kernel
theorem dX12_bytesIs_15 : decode cX12_bytesIs 15 = .ok (.iload_n 1, 1) := by decide +kernel
theorem dX12_bytesIs_16 : decode cX12_bytesIs 16 = .ok (.iaload, 1) := by decide +kernel
theorem dX12_bytesIs_17 : decode cX12_bytesIs 17 = .ok (.ifCond .ge 8, 3) := by decide +kernel
theorem dX12_bytesIs_20 : decode cX12_bytesIs 20 = .ok (.bipush (-11), 2) := by decide +kernel
theorem dX12_bytesIs_22 : decode cX12_bytesIs 22 = .ok (.goto 20, 3) := by decide +kernel
theorem dX12_bytesIs_25 : decode cX12_bytesIs 25 = .ok (.aload_n 0, 1) := by decide +kernel
theorem dX12_bytesIs_26 : decode cX12_bytesIs 26 = .ok (.getfield 68, 3) := by decide +kernel
theorem dX12_bytesIs_29 : decode cX12_bytesIs 29 = .ok (.iload_n 1, 1) := by decide +kernel
theorem dX12_bytesIs_30 : decode cX12_bytesIs 30 = .ok (.iaload, 1) := by decide +kernel
theorem dX12_bytesIs_31 : decode cX12_bytesIs 31 = .ok (.bipush 50, 2) := by decide +kernel
theorem dX12_bytesIs_33 : decode cX12_bytesIs 33 = .ok (.if_icmp .ne 7, 3) := by decide +kernel
theorem dX12_bytesIs_36 : decode cX12_bytesIs 36 = .ok (.iconst 1, 1) := by decide +kernel
theorem dX12_bytesIs_37 : decode cX12_bytesIs 37 = .ok (.goto 5, 3) := by decide +kernel
theorem dX12_bytesIs_40 : decode cX12_bytesIs 40 = .ok (.bipush (-12), 2) := by decide +kernel
theorem dX12_bytesIs_42 : decode cX12_bytesIs 42 = .ok (.ireturn, 1) := by decide +kernel
theorem dX12_orderedOf_0 : decode cX12_orderedOf 0 = .ok (.iconst 0, 1) := by decide +kernel
theorem dX12_orderedOf_1 : decode cX12_orderedOf 1 = .ok (.istore_n 2, 1) := by decide +kernel
theorem dX12_orderedOf_2 : decode cX12_orderedOf 2 = .ok (.iload_n 2, 1) := by decide +kernel
theorem dX12_orderedOf_3 : decode cX12_orderedOf 3 = .ok (.bipush 10, 2) := by decide +kernel
theorem dX12_orderedOf_5 : decode cX12_orderedOf 5 = .ok (.if_icmp .ge 37, 3) := by decide +kernel
theorem dX12_orderedOf_8 : decode cX12_orderedOf 8 = .ok (.iload_n 2, 1) := by decide +kernel
theorem dX12_orderedOf_9 : decode cX12_orderedOf 9 = .ok (.aload_n 0, 1) := by decide +kernel
theorem dX12_orderedOf_10 : decode cX12_orderedOf 10 = .ok (.getfield 71, 3) := by decide +kernel
theorem dX12_orderedOf_13 : decode cX12_orderedOf 13 = .ok (.iload_n 1, 1) := by decide +kernel
theorem dX12_orderedOf_14 : decode cX12_orderedOf 14 = .ok (.iaload, 1) := by decide +kernel
theorem dX12_orderedOf_15 : decode cX12_orderedOf 15 = .ok (.if_icmp .ge 27, 3) := by decide +kernel
theorem dX12_orderedOf_18 : decode cX12_orderedOf 18 = .ok (.aload_n 0, 1) := by decide +kernel
theorem dX12_orderedOf_19 : decode cX12_orderedOf 19 = .ok (.aload_n 0, 1) := by decide +kernel
theorem dX12_orderedOf_20 : decode cX12_orderedOf 20 = .ok (.getfield 74, 3) := by decide +kernel
theorem dX12_orderedOf_23 : decode cX12_orderedOf 23 = .ok (.bipush 60, 2) := by decide +kernel
theorem dX12_orderedOf_25 : decode cX12_orderedOf 25 = .ok (.iload_n 1, 1) := by decide +kernel
theorem dX12_orderedOf_26 : decode cX12_orderedOf 26 = .ok (.imul, 1) := by decide +kernel
theorem dX12_orderedOf_27 : decode cX12_orderedOf 27 = .ok (.iload_n 2, 1) := by decide +kernel
theorem dX12_orderedOf_28 : decode cX12_orderedOf 28 = .ok (.iadd, 1) := by decide +kernel
theorem dX12_orderedOf_29 : decode cX12_orderedOf 29 = .ok (.laload, 1) := by decide +kernel
theorem dX12_orderedOf_30 : decode cX12_orderedOf 30 = .ok (.invokevirtual 125, 3) := by decide +kernel
theorem dX12_orderedOf_33 : decode cX12_orderedOf 33 = .ok (.ifCond .eq 9, 3) := by decide +kernel
theorem dX12_orderedOf_36 : decode cX12_orderedOf 36 = .ok (.iinc 2 1, 3) := by decide +kernel
theorem dX12_orderedOf_39 : decode cX12_orderedOf 39 = .ok (.goto (-37), 3) := by decide +kernel
theorem dX12_orderedOf_42 : decode cX12_orderedOf 42 = .ok (.iload_n 2, 1) := by decide +kernel
theorem dX12_orderedOf_43 : decode cX12_orderedOf 43 = .ok (.ireturn, 1) := by decide +kernel
theorem dX12_goerAt_0 : decode cX12_goerAt 0 = .ok (.aload_n 0, 1) := by decide +kernel
theorem dX12_goerAt_1 : decode cX12_goerAt 1 = .ok (.getfield 74, 3) := by decide +kernel
theorem dX12_goerAt_4 : decode cX12_goerAt 4 = .ok (.bipush 60, 2) := by decide +kernel
theorem dX12_goerAt_6 : decode cX12_goerAt 6 = .ok (.iload_n 1, 1) := by decide +kernel
theorem dX12_goerAt_7 : decode cX12_goerAt 7 = .ok (.imul, 1) := by decide +kernel
theorem dX12_goerAt_8 : decode cX12_goerAt 8 = .ok (.iload_n 2, 1) := by decide +kernel
theorem dX12_goerAt_9 : decode cX12_goerAt 9 = .ok (.iadd, 1) := by decide +kernel
theorem dX12_goerAt_10 : decode cX12_goerAt 10 = .ok (.laload, 1) := by decide +kernel
theorem dX12_goerAt_11 : decode cX12_goerAt 11 = .ok (.l2i, 1) := by decide +kernel
theorem dX12_goerAt_12 : decode cX12_goerAt 12 = .ok (.ireturn, 1) := by decide +kernel
theorem dX12_overOf_0 : decode cX12_overOf 0 = .ok (.iconst 0, 1) := by decide +kernel
theorem dX12_overOf_1 : decode cX12_overOf 1 = .ok (.istore 4, 2) := by decide +kernel
theorem dX12_overOf_3 : decode cX12_overOf 3 = .ok (.aload_n 0, 1) := by decide +kernel
theorem dX12_overOf_4 : decode cX12_overOf 4 = .ok (.bipush (-2), 2) := by decide +kernel
theorem dX12_overOf_6 : decode cX12_overOf 6 = .ok (.putfield 243, 3) := by decide +kernel
theorem dX12_overOf_9 : decode cX12_overOf 9 = .ok (.iconst 0, 1) := by decide +kernel
theorem dX12_overOf_10 : decode cX12_overOf 10 = .ok (.istore 5, 2) := by decide +kernel
theorem dX12_overOf_12 : decode cX12_overOf 12 = .ok (.iload 5, 2) := by decide +kernel
theorem dX12_overOf_14 : decode cX12_overOf 14 = .ok (.iload_n 3, 1) := by decide +kernel
theorem dX12_overOf_15 : decode cX12_overOf 15 = .ok (.if_icmp .ge 63, 3) := by decide +kernel
theorem dX12_overOf_18 : decode cX12_overOf 18 = .ok (.aload_n 0, 1) := by decide +kernel
theorem dX12_overOf_19 : decode cX12_overOf 19 = .ok (.aload_n 0, 1) := by decide +kernel
theorem dX12_overOf_20 : decode cX12_overOf 20 = .ok (.iload_n 1, 1) := by decide +kernel
theorem dX12_overOf_21 : decode cX12_overOf 21 = .ok (.iload 5, 2) := by decide +kernel
theorem dX12_overOf_23 : decode cX12_overOf 23 = .ok (.invokevirtual 246, 3) := by decide +kernel
theorem dX12_overOf_26 : decode cX12_overOf 26 = .ok (.iload_n 2, 1) := by decide +kernel
theorem dX12_overOf_27 : decode cX12_overOf 27 = .ok (.invokevirtual 249, 3) := by decide +kernel
theorem dX12_overOf_30 : decode cX12_overOf 30 = .ok (.istore 6, 2) := by decide +kernel
theorem dX12_overOf_32 : decode cX12_overOf 32 = .ok (.iload 4, 2) := by decide +kernel
theorem dX12_overOf_34 : decode cX12_overOf 34 = .ok (.iload 6, 2) := by decide +kernel
theorem dX12_overOf_36 : decode cX12_overOf 36 = .ok (.ifCond .eq 7, 3) := by decide +kernel
theorem dX12_overOf_39 : decode cX12_overOf 39 = .ok (.iconst 1, 1) := by decide +kernel
theorem dX12_overOf_40 : decode cX12_overOf 40 = .ok (.goto 4, 3) := by decide +kernel
theorem dX12_overOf_43 : decode cX12_overOf 43 = .ok (.iconst 0, 1) := by decide +kernel
theorem dX12_overOf_44 : decode cX12_overOf 44 = .ok (.iadd, 1) := by decide +kernel
theorem dX12_overOf_45 : decode cX12_overOf 45 = .ok (.istore 4, 2) := by decide +kernel
theorem dX12_overOf_47 : decode cX12_overOf 47 = .ok (.aload_n 0, 1) := by decide +kernel
theorem dX12_overOf_48 : decode cX12_overOf 48 = .ok (.iload 6, 2) := by decide +kernel
theorem dX12_overOf_50 : decode cX12_overOf 50 = .ok (.ifCond .ne 15, 3) := by decide +kernel
theorem dX12_overOf_53 : decode cX12_overOf 53 = .ok (.aload_n 0, 1) := by decide +kernel
theorem dX12_overOf_54 : decode cX12_overOf 54 = .ok (.getfield 243, 3) := by decide +kernel
theorem dX12_overOf_57 : decode cX12_overOf 57 = .ok (.ifCond .ge 8, 3) := by decide +kernel
theorem dX12_overOf_60 : decode cX12_overOf 60 = .ok (.iload 5, 2) := by decide +kernel
theorem dX12_overOf_62 : decode cX12_overOf 62 = .ok (.goto 7, 3) := by decide +kernel
theorem dX12_overOf_65 : decode cX12_overOf 65 = .ok (.aload_n 0, 1) := by decide +kernel
theorem dX12_overOf_66 : decode cX12_overOf 66 = .ok (.getfield 243, 3) := by decide +kernel
theorem dX12_overOf_69 : decode cX12_overOf 69 = .ok (.putfield 243, 3) := by decide +kernel
theorem dX12_overOf_72 : decode cX12_overOf 72 = .ok (.iinc 5 1, 3) := by decide +kernel
theorem dX12_overOf_75 : decode cX12_overOf 75 = .ok (.goto (-63), 3) := by decide +kernel
theorem dX12_overOf_78 : decode cX12_overOf 78 = .ok (.iload 4, 2) := by decide +kernel
theorem dX12_overOf_80 : decode cX12_overOf 80 = .ok (.ireturn, 1) := by decide +kernel
theorem dX12_over_0 : decode cX12_over 0 = .ok (.aload_n 0, 1) := by decide +kernel
theorem dX12_over_1 : decode cX12_over 1 = .ok (.iload_n 1, 1) := by decide +kernel
theorem dX12_over_2 : decode cX12_over 2 = .ok (.invokevirtual 252, 3) := by decide +kernel
theorem dX12_over_5 : decode cX12_over 5 = .ok (.iconst (-1), 1) := by decide +kernel
theorem dX12_over_6 : decode cX12_over 6 = .ok (.if_icmp .eq 23, 3) := by decide +kernel
theorem dX12_over_9 : decode cX12_over 9 = .ok (.iload_n 2, 1) := by decide +kernel
theorem dX12_over_10 : decode cX12_over 10 = .ok (.i2l, 1) := by decide +kernel
theorem dX12_over_11 : decode cX12_over 11 = .ok (.invokestatic 255, 3) := by decide +kernel
theorem dX12_over_14 : decode cX12_over 14 = .ok (.ifCond .eq 15, 3) := by decide +kernel
theorem dX12_over_17 : decode cX12_over 17 = .ok (.iload_n 3, 1) := by decide +kernel
theorem dX12_over_18 : decode cX12_over 18 = .ok (.i2l, 1) := by decide +kernel
theorem dX12_over_19 : decode cX12_over 19 = .ok (.lconst 0, 1) := by decide +kernel
theorem dX12_over_20 : decode cX12_over 20 = .ok (.ldc2_w 100, 3) := by decide +kernel
theorem dX12_over_23 : decode cX12_over 23 = .ok (.invokestatic 96, 3) := by decide +kernel
theorem dX12_over_26 : decode cX12_over 26 = .ok (.ifCond .ne 5, 3) := by decide +kernel
theorem dX12_over_29 : decode cX12_over 29 = .ok (.iconst (-1), 1) := by decide +kernel
theorem dX12_over_30 : decode cX12_over 30 = .ok (.ireturn, 1) := by decide +kernel
theorem dX12_over_31 : decode cX12_over 31 = .ok (.aload_n 0, 1) := by decide +kernel
theorem dX12_over_32 : decode cX12_over 32 = .ok (.iload_n 1, 1) := by decide +kernel
theorem dX12_over_33 : decode cX12_over 33 = .ok (.invokevirtual 252, 3) := by decide +kernel
theorem dX12_over_36 : decode cX12_over 36 = .ok (.ifCond .ge 9, 3) := by decide +kernel
theorem dX12_over_39 : decode cX12_over 39 = .ok (.aload_n 0, 1) := by decide +kernel
theorem dX12_over_40 : decode cX12_over 40 = .ok (.iload_n 1, 1) := by decide +kernel
theorem dX12_over_41 : decode cX12_over 41 = .ok (.invokevirtual 252, 3) := by decide +kernel
theorem dX12_over_44 : decode cX12_over 44 = .ok (.ireturn, 1) := by decide +kernel
theorem dX12_over_45 : decode cX12_over 45 = .ok (.aload_n 0, 1) := by decide +kernel
theorem dX12_over_46 : decode cX12_over 46 = .ok (.invokevirtual 146, 3) := by decide +kernel
theorem dX12_over_49 : decode cX12_over 49 = .ok (.aload_n 0, 1) := by decide +kernel
theorem dX12_over_50 : decode cX12_over 50 = .ok (.iload_n 1, 1) := by decide +kernel
theorem dX12_over_51 : decode cX12_over 51 = .ok (.iload_n 2, 1) := by decide +kernel
theorem dX12_over_52 : decode cX12_over 52 = .ok (.aload_n 0, 1) := by decide +kernel
theorem dX12_over_53 : decode cX12_over 53 = .ok (.iload_n 1, 1) := by decide +kernel
theorem dX12_over_54 : decode cX12_over 54 = .ok (.invokevirtual 258, 3) := by decide +kernel
theorem dX12_over_57 : decode cX12_over 57 = .ok (.invokevirtual 261, 3) := by decide +kernel
theorem dX12_over_60 : decode cX12_over 60 = .ok (.istore 4, 2) := by decide +kernel
theorem dX12_over_62 : decode cX12_over 62 = .ok (.iload_n 3, 1) := by decide +kernel
theorem dX12_over_63 : decode cX12_over 63 = .ok (.ifCond .ne 8, 3) := by decide +kernel
theorem dX12_over_66 : decode cX12_over 66 = .ok (.iload 4, 2) := by decide +kernel
theorem dX12_over_68 : decode cX12_over 68 = .ok (.goto 24, 3) := by decide +kernel
theorem dX12_over_71 : decode cX12_over 71 = .ok (.iload_n 3, 1) := by decide +kernel
theorem dX12_over_72 : decode cX12_over 72 = .ok (.iconst 1, 1) := by decide +kernel
theorem dX12_over_73 : decode cX12_over 73 = .ok (.if_icmp .ne 10, 3) := by decide +kernel
theorem dX12_over_76 : decode cX12_over 76 = .ok (.aload_n 0, 1) := by decide +kernel
theorem dX12_over_77 : decode cX12_over 77 = .ok (.getfield 243, 3) := by decide +kernel
theorem dX12_over_80 : decode cX12_over 80 = .ok (.goto 12, 3) := by decide +kernel
theorem dX12_over_83 : decode cX12_over 83 = .ok (.aload_n 0, 1) := by decide +kernel
theorem dX12_over_84 : decode cX12_over 84 = .ok (.getfield 210, 3) := by decide +kernel
theorem dX12_over_87 : decode cX12_over 87 = .ok (.aload_n 0, 1) := by decide +kernel
theorem dX12_over_88 : decode cX12_over 88 = .ok (.getfield 153, 3) := by decide +kernel
theorem dX12_over_91 : decode cX12_over 91 = .ok (.isub, 1) := by decide +kernel
theorem dX12_over_92 : decode cX12_over 92 = .ok (.ireturn, 1) := by decide +kernel
theorem dX12_bears_0 : decode cX12_bears 0 = .ok (.aload_n 0, 1) := by decide +kernel
theorem dX12_bears_1 : decode cX12_bears 1 = .ok (.iload_n 1, 1) := by decide +kernel
theorem dX12_bears_2 : decode cX12_bears 2 = .ok (.invokevirtual 252, 3) := by decide +kernel
theorem dX12_bears_5 : decode cX12_bears 5 = .ok (.iconst (-1), 1) := by decide +kernel
theorem dX12_bears_6 : decode cX12_bears 6 = .ok (.if_icmp .eq 18, 3) := by decide +kernel
theorem dX12_bears_9 : decode cX12_bears 9 = .ok (.iload_n 2, 1) := by decide +kernel
theorem dX12_bears_10 : decode cX12_bears 10 = .ok (.i2l, 1) := by decide +kernel
theorem dX12_bears_11 : decode cX12_bears 11 = .ok (.invokestatic 255, 3) := by decide +kernel
theorem dX12_bears_14 : decode cX12_bears 14 = .ok (.ifCond .eq 10, 3) := by decide +kernel
theorem dX12_bears_17 : decode cX12_bears 17 = .ok (.iload_n 3, 1) := by decide +kernel
theorem dX12_bears_18 : decode cX12_bears 18 = .ok (.invokestatic 120, 3) := by decide +kernel
theorem dX12_bears_21 : decode cX12_bears 21 = .ok (.ifCond .ne 5, 3) := by decide +kernel
theorem dX12_bears_24 : decode cX12_bears 24 = .ok (.iconst (-1), 1) := by decide +kernel
theorem dX12_bears_25 : decode cX12_bears 25 = .ok (.ireturn, 1) := by decide +kernel
theorem dX12_bears_26 : decode cX12_bears 26 = .ok (.aload_n 0, 1) := by decide +kernel
theorem dX12_bears_27 : decode cX12_bears 27 = .ok (.iload_n 1, 1) := by decide +kernel
theorem dX12_bears_28 : decode cX12_bears 28 = .ok (.invokevirtual 252, 3) := by decide +kernel
theorem dX12_bears_31 : decode cX12_bears 31 = .ok (.ifCond .ge 9, 3) := by decide +kernel
theorem dX12_bears_34 : decode cX12_bears 34 = .ok (.aload_n 0, 1) := by decide +kernel
theorem dX12_bears_35 : decode cX12_bears 35 = .ok (.iload_n 1, 1) := by decide +kernel
theorem dX12_bears_36 : decode cX12_bears 36 = .ok (.invokevirtual 252, 3) := by decide +kernel
theorem dX12_bears_39 : decode cX12_bears 39 = .ok (.ireturn, 1) := by decide +kernel
theorem dX12_bears_40 : decode cX12_bears 40 = .ok (.aload_n 0, 1) := by decide +kernel
theorem dX12_bears_41 : decode cX12_bears 41 = .ok (.invokevirtual 146, 3) := by decide +kernel
theorem dX12_bears_44 : decode cX12_bears 44 = .ok (.aload_n 0, 1) := by decide +kernel
theorem dX12_bears_45 : decode cX12_bears 45 = .ok (.iload_n 1, 1) := by decide +kernel
theorem dX12_bears_46 : decode cX12_bears 46 = .ok (.iload_n 2, 1) := by decide +kernel
theorem dX12_bears_47 : decode cX12_bears 47 = .ok (.aload_n 0, 1) := by decide +kernel
theorem dX12_bears_48 : decode cX12_bears 48 = .ok (.iload_n 1, 1) := by decide +kernel
theorem dX12_bears_49 : decode cX12_bears 49 = .ok (.invokevirtual 258, 3) := by decide +kernel
theorem dX12_bears_52 : decode cX12_bears 52 = .ok (.invokevirtual 261, 3) := by decide +kernel
theorem dX12_bears_55 : decode cX12_bears 55 = .ok (.pop, 1) := by decide +kernel
theorem dX12_bears_56 : decode cX12_bears 56 = .ok (.aload_n 0, 1) := by decide +kernel
theorem dX12_bears_57 : decode cX12_bears 57 = .ok (.iload_n 3, 1) := by decide +kernel
theorem dX12_bears_58 : decode cX12_bears 58 = .ok (.invokevirtual 149, 3) := by decide +kernel
theorem dX12_bears_61 : decode cX12_bears 61 = .ok (.ireturn, 1) := by decide +kernel
theorem dX12_overOrder_0 : decode cX12_overOrder 0 = .ok (.aload_n 0, 1) := by decide +kernel
theorem dX12_overOrder_1 : decode cX12_overOrder 1 = .ok (.invokevirtual 146, 3) := by decide +kernel
theorem dX12_overOrder_4 : decode cX12_overOrder 4 = .ok (.iconst 0, 1) := by decide +kernel
theorem dX12_overOrder_5 : decode cX12_overOrder 5 = .ok (.istore_n 2, 1) := by decide +kernel
theorem dX12_overOrder_6 : decode cX12_overOrder 6 = .ok (.iconst 0, 1) := by decide +kernel
theorem dX12_overOrder_7 : decode cX12_overOrder 7 = .ok (.istore_n 3, 1) := by decide +kernel
theorem dX12_overOrder_8 : decode cX12_overOrder 8 = .ok (.iload_n 3, 1) := by decide +kernel
theorem dX12_overOrder_9 : decode cX12_overOrder 9 = .ok (.aload_n 0, 1) := by decide +kernel
theorem dX12_overOrder_10 : decode cX12_overOrder 10 = .ok (.getfield 93, 3) := by decide +kernel
theorem dX12_overOrder_13 : decode cX12_overOrder 13 = .ok (.if_icmp .ge 31, 3) := by decide +kernel
theorem dX12_overOrder_16 : decode cX12_overOrder 16 = .ok (.iload_n 2, 1) := by decide +kernel
theorem dX12_overOrder_17 : decode cX12_overOrder 17 = .ok (.aload_n 0, 1) := by decide +kernel
theorem dX12_overOrder_18 : decode cX12_overOrder 18 = .ok (.aload_n 0, 1) := by decide +kernel
theorem dX12_overOrder_19 : decode cX12_overOrder 19 = .ok (.getfield 43, 3) := by decide +kernel
theorem dX12_overOrder_22 : decode cX12_overOrder 22 = .ok (.iload_n 3, 1) := by decide +kernel
theorem dX12_overOrder_23 : decode cX12_overOrder 23 = .ok (.iaload, 1) := by decide +kernel
theorem dX12_overOrder_24 : decode cX12_overOrder 24 = .ok (.iload_n 1, 1) := by decide +kernel
theorem dX12_overOrder_25 : decode cX12_overOrder 25 = .ok (.invokevirtual 249, 3) := by decide +kernel
theorem dX12_overOrder_28 : decode cX12_overOrder 28 = .ok (.ifCond .eq 7, 3) := by decide +kernel
theorem dX12_overOrder_31 : decode cX12_overOrder 31 = .ok (.iconst 1, 1) := by decide +kernel
theorem dX12_overOrder_32 : decode cX12_overOrder 32 = .ok (.goto 4, 3) := by decide +kernel
theorem dX12_overOrder_35 : decode cX12_overOrder 35 = .ok (.iconst 0, 1) := by decide +kernel
theorem dX12_overOrder_36 : decode cX12_overOrder 36 = .ok (.iadd, 1) := by decide +kernel
theorem dX12_overOrder_37 : decode cX12_overOrder 37 = .ok (.istore_n 2, 1) := by decide +kernel
theorem dX12_overOrder_38 : decode cX12_overOrder 38 = .ok (.iinc 3 1, 3) := by decide +kernel
theorem dX12_overOrder_41 : decode cX12_overOrder 41 = .ok (.goto (-33), 3) := by decide +kernel
theorem dX12_overOrder_44 : decode cX12_overOrder 44 = .ok (.iload_n 2, 1) := by decide +kernel
theorem dX12_overOrder_45 : decode cX12_overOrder 45 = .ok (.ireturn, 1) := by decide +kernel
theorem dX12_keepsOrder_0 : decode cX12_keepsOrder 0 = .ok (.aload_n 0, 1) := by decide +kernel
theorem dX12_keepsOrder_1 : decode cX12_keepsOrder 1 = .ok (.iload_n 1, 1) := by decide +kernel
theorem dX12_keepsOrder_2 : decode cX12_keepsOrder 2 = .ok (.putfield 265, 3) := by decide +kernel
theorem dX12_keepsOrder_5 : decode cX12_keepsOrder 5 = .ok (.iconst 0, 1) := by decide +kernel
theorem dX12_keepsOrder_6 : decode cX12_keepsOrder 6 = .ok (.istore_n 2, 1) := by decide +kernel
theorem dX12_keepsOrder_7 : decode cX12_keepsOrder 7 = .ok (.iload_n 2, 1) := by decide +kernel
theorem dX12_keepsOrder_8 : decode cX12_keepsOrder 8 = .ok (.aload_n 0, 1) := by decide +kernel
theorem dX12_keepsOrder_9 : decode cX12_keepsOrder 9 = .ok (.getfield 93, 3) := by decide +kernel
theorem dX12_keepsOrder_12 : decode cX12_keepsOrder 12 = .ok (.if_icmp .ge 21, 3) := by decide +kernel
theorem dX12_keepsOrder_15 : decode cX12_keepsOrder 15 = .ok (.aload_n 0, 1) := by decide +kernel
theorem dX12_keepsOrder_16 : decode cX12_keepsOrder 16 = .ok (.getfield 46, 3) := by decide +kernel
theorem dX12_keepsOrder_19 : decode cX12_keepsOrder 19 = .ok (.iload_n 2, 1) := by decide +kernel
theorem dX12_keepsOrder_20 : decode cX12_keepsOrder 20 = .ok (.aload_n 0, 1) := by decide +kernel
theorem dX12_keepsOrder_21 : decode cX12_keepsOrder 21 = .ok (.getfield 43, 3) := by decide +kernel
theorem dX12_keepsOrder_24 : decode cX12_keepsOrder 24 = .ok (.iload_n 2, 1) := by decide +kernel
theorem dX12_keepsOrder_25 : decode cX12_keepsOrder 25 = .ok (.iaload, 1) := by decide +kernel
theorem dX12_keepsOrder_26 : decode cX12_keepsOrder 26 = .ok (.iastore, 1) := by decide +kernel
theorem dX12_keepsOrder_27 : decode cX12_keepsOrder 27 = .ok (.iinc 2 1, 3) := by decide +kernel
theorem dX12_keepsOrder_30 : decode cX12_keepsOrder 30 = .ok (.goto (-23), 3) := by decide +kernel
theorem dX12_keepsOrder_33 : decode cX12_keepsOrder 33 = .ok (.return_, 1) := by decide +kernel
theorem dX12_ordersOn_0 : decode cX12_ordersOn 0 = .ok (.iload_n 1, 1) := by decide +kernel
theorem dX12_ordersOn_1 : decode cX12_ordersOn 1 = .ok (.aload_n 0, 1) := by decide +kernel
theorem dX12_ordersOn_2 : decode cX12_ordersOn 2 = .ok (.getfield 93, 3) := by decide +kernel
theorem dX12_ordersOn_5 : decode cX12_ordersOn 5 = .ok (.if_icmp .ne 26, 3) := by decide +kernel
theorem dX12_ordersOn_8 : decode cX12_ordersOn 8 = .ok (.aload_n 0, 1) := by decide +kernel
theorem dX12_ordersOn_9 : decode cX12_ordersOn 9 = .ok (.iload_n 3, 1) := by decide +kernel
theorem dX12_ordersOn_10 : decode cX12_ordersOn 10 = .ok (.invokevirtual 268, 3) := by decide +kernel
theorem dX12_ordersOn_13 : decode cX12_ordersOn 13 = .ok (.istore 4, 2) := by decide +kernel
theorem dX12_ordersOn_15 : decode cX12_ordersOn 15 = .ok (.iload 4, 2) := by decide +kernel
theorem dX12_ordersOn_17 : decode cX12_ordersOn 17 = .ok (.aload_n 0, 1) := by decide +kernel
theorem dX12_ordersOn_18 : decode cX12_ordersOn 18 = .ok (.getfield 265, 3) := by decide +kernel
theorem dX12_ordersOn_21 : decode cX12_ordersOn 21 = .ok (.if_icmp .le 9, 3) := by decide +kernel
theorem dX12_ordersOn_24 : decode cX12_ordersOn 24 = .ok (.aload_n 0, 1) := by decide +kernel
theorem dX12_ordersOn_25 : decode cX12_ordersOn 25 = .ok (.iload 4, 2) := by decide +kernel
theorem dX12_ordersOn_27 : decode cX12_ordersOn 27 = .ok (.invokevirtual 271, 3) := by decide +kernel
theorem dX12_ordersOn_30 : decode cX12_ordersOn 30 = .ok (.return_, 1) := by decide +kernel
theorem dX12_ordersOn_31 : decode cX12_ordersOn 31 = .ok (.iconst 0, 1) := by decide +kernel
theorem dX12_ordersOn_32 : decode cX12_ordersOn 32 = .ok (.istore 4, 2) := by decide +kernel
theorem dX12_ordersOn_34 : decode cX12_ordersOn 34 = .ok (.iload 4, 2) := by decide +kernel
theorem dX12_ordersOn_36 : decode cX12_ordersOn 36 = .ok (.aload_n 0, 1) := by decide +kernel
theorem dX12_ordersOn_37 : decode cX12_ordersOn 37 = .ok (.getfield 93, 3) := by decide +kernel
theorem dX12_ordersOn_40 : decode cX12_ordersOn 40 = .ok (.if_icmp .ge 40, 3) := by decide +kernel
theorem dX12_ordersOn_43 : decode cX12_ordersOn 43 = .ok (.iload_n 2, 1) := by decide +kernel
theorem dX12_ordersOn_44 : decode cX12_ordersOn 44 = .ok (.iload 4, 2) := by decide +kernel
theorem dX12_ordersOn_46 : decode cX12_ordersOn 46 = .ok (.invokestatic 219, 3) := by decide +kernel
theorem dX12_ordersOn_49 : decode cX12_ordersOn 49 = .ok (.ifCond .ne 25, 3) := by decide +kernel
theorem dX12_ordersOn_52 : decode cX12_ordersOn 52 = .ok (.aload_n 0, 1) := by decide +kernel
theorem dX12_ordersOn_53 : decode cX12_ordersOn 53 = .ok (.getfield 43, 3) := by decide +kernel
theorem dX12_ordersOn_56 : decode cX12_ordersOn 56 = .ok (.iload_n 1, 1) := by decide +kernel
theorem dX12_ordersOn_57 : decode cX12_ordersOn 57 = .ok (.iload 4, 2) := by decide +kernel
theorem dX12_ordersOn_59 : decode cX12_ordersOn 59 = .ok (.iastore, 1) := by decide +kernel
theorem dX12_ordersOn_60 : decode cX12_ordersOn 60 = .ok (.aload_n 0, 1) := by decide +kernel
theorem dX12_ordersOn_61 : decode cX12_ordersOn 61 = .ok (.iload_n 1, 1) := by decide +kernel
theorem dX12_ordersOn_62 : decode cX12_ordersOn 62 = .ok (.iconst 1, 1) := by decide +kernel
theorem dX12_ordersOn_63 : decode cX12_ordersOn 63 = .ok (.iadd, 1) := by decide +kernel
theorem dX12_ordersOn_64 : decode cX12_ordersOn 64 = .ok (.iload_n 2, 1) := by decide +kernel
theorem dX12_ordersOn_65 : decode cX12_ordersOn 65 = .ok (.iconst 1, 1) := by decide +kernel
theorem dX12_ordersOn_66 : decode cX12_ordersOn 66 = .ok (.iload 4, 2) := by decide +kernel
theorem dX12_ordersOn_68 : decode cX12_ordersOn 68 = .ok (.ishl, 1) := by decide +kernel
theorem dX12_ordersOn_69 : decode cX12_ordersOn 69 = .ok (.ior, 1) := by decide +kernel
theorem dX12_ordersOn_70 : decode cX12_ordersOn 70 = .ok (.iload_n 3, 1) := by decide +kernel
theorem dX12_ordersOn_71 : decode cX12_ordersOn 71 = .ok (.invokevirtual 274, 3) := by decide +kernel
theorem dX12_ordersOn_74 : decode cX12_ordersOn 74 = .ok (.iinc 4 1, 3) := by decide +kernel
theorem dX12_ordersOn_77 : decode cX12_ordersOn 77 = .ok (.goto (-43), 3) := by decide +kernel
theorem dX12_ordersOn_80 : decode cX12_ordersOn 80 = .ok (.return_, 1) := by decide +kernel
theorem dX12_all_0 : decode cX12_all 0 = .ok (.iload_n 1, 1) := by decide +kernel
theorem dX12_all_1 : decode cX12_all 1 = .ok (.i2l, 1) := by decide +kernel
theorem dX12_all_2 : decode cX12_all 2 = .ok (.invokestatic 255, 3) := by decide +kernel
theorem dX12_all_5 : decode cX12_all 5 = .ok (.ifCond .eq 8, 3) := by decide +kernel
theorem dX12_all_8 : decode cX12_all 8 = .ok (.iload_n 2, 1) := by decide +kernel
theorem dX12_all_9 : decode cX12_all 9 = .ok (.iconst (-1), 1) := by decide +kernel
theorem dX12_all_10 : decode cX12_all 10 = .ok (.if_icmp .ge 5, 3) := by decide +kernel
theorem dX12_all_13 : decode cX12_all 13 = .ok (.iconst (-1), 1) := by decide +kernel
theorem dX12_all_14 : decode cX12_all 14 = .ok (.ireturn, 1) := by decide +kernel
theorem dX12_all_15 : decode cX12_all 15 = .ok (.aload_n 0, 1) := by decide +kernel
theorem dX12_all_16 : decode cX12_all 16 = .ok (.iconst (-1), 1) := by decide +kernel
theorem dX12_all_17 : decode cX12_all 17 = .ok (.putfield 265, 3) := by decide +kernel
theorem dX12_all_20 : decode cX12_all 20 = .ok (.aload_n 0, 1) := by decide +kernel
theorem dX12_all_21 : decode cX12_all 21 = .ok (.iconst 0, 1) := by decide +kernel
theorem dX12_all_22 : decode cX12_all 22 = .ok (.iconst 0, 1) := by decide +kernel
theorem dX12_all_23 : decode cX12_all 23 = .ok (.iload_n 1, 1) := by decide +kernel
theorem dX12_all_24 : decode cX12_all 24 = .ok (.invokevirtual 274, 3) := by decide +kernel
theorem dX12_all_27 : decode cX12_all 27 = .ok (.iload_n 2, 1) := by decide +kernel
theorem dX12_all_28 : decode cX12_all 28 = .ok (.ifCond .ge 10, 3) := by decide +kernel
theorem dX12_all_31 : decode cX12_all 31 = .ok (.aload_n 0, 1) := by decide +kernel
theorem dX12_all_32 : decode cX12_all 32 = .ok (.getfield 265, 3) := by decide +kernel
theorem dX12_all_35 : decode cX12_all 35 = .ok (.goto 22, 3) := by decide +kernel
theorem dX12_all_38 : decode cX12_all 38 = .ok (.iload_n 2, 1) := by decide +kernel
theorem dX12_all_39 : decode cX12_all 39 = .ok (.aload_n 0, 1) := by decide +kernel
theorem dX12_all_40 : decode cX12_all 40 = .ok (.getfield 93, 3) := by decide +kernel
theorem dX12_all_43 : decode cX12_all 43 = .ok (.if_icmp .ge 12, 3) := by decide +kernel
theorem dX12_all_46 : decode cX12_all 46 = .ok (.aload_n 0, 1) := by decide +kernel
theorem dX12_all_47 : decode cX12_all 47 = .ok (.getfield 46, 3) := by decide +kernel
theorem dX12_all_50 : decode cX12_all 50 = .ok (.iload_n 2, 1) := by decide +kernel
theorem dX12_all_51 : decode cX12_all 51 = .ok (.iaload, 1) := by decide +kernel
theorem dX12_all_52 : decode cX12_all 52 = .ok (.goto 5, 3) := by decide +kernel
theorem dX12_all_55 : decode cX12_all 55 = .ok (.bipush (-2), 2) := by decide +kernel
theorem dX12_all_57 : decode cX12_all 57 = .ok (.ireturn, 1) := by decide +kernel
theorem dX12_rankOf_0 : decode cX12_rankOf 0 = .ok (.iload_n 2, 1) := by decide +kernel
theorem dX12_rankOf_1 : decode cX12_rankOf 1 = .ok (.ifCond .ne 12, 3) := by decide +kernel
theorem dX12_rankOf_4 : decode cX12_rankOf 4 = .ok (.aload_n 0, 1) := by decide +kernel
theorem dX12_rankOf_5 : decode cX12_rankOf 5 = .ok (.iload_n 1, 1) := by decide +kernel
theorem dX12_rankOf_6 : decode cX12_rankOf 6 = .ok (.iconst 0, 1) := by decide +kernel
theorem dX12_rankOf_7 : decode cX12_rankOf 7 = .ok (.invokevirtual 225, 3) := by decide +kernel
theorem dX12_rankOf_10 : decode cX12_rankOf 10 = .ok (.goto 40, 3) := by decide +kernel
theorem dX12_rankOf_13 : decode cX12_rankOf 13 = .ok (.iload_n 2, 1) := by decide +kernel
theorem dX12_rankOf_14 : decode cX12_rankOf 14 = .ok (.iconst 1, 1) := by decide +kernel
theorem dX12_rankOf_15 : decode cX12_rankOf 15 = .ok (.if_icmp .ne 13, 3) := by decide +kernel
theorem dX12_rankOf_18 : decode cX12_rankOf 18 = .ok (.aload_n 0, 1) := by decide +kernel
theorem dX12_rankOf_19 : decode cX12_rankOf 19 = .ok (.iload_n 1, 1) := by decide +kernel
theorem dX12_rankOf_20 : decode cX12_rankOf 20 = .ok (.iconst 0, 1) := by decide +kernel
theorem dX12_rankOf_21 : decode cX12_rankOf 21 = .ok (.invokevirtual 225, 3) := by decide +kernel
theorem dX12_rankOf_24 : decode cX12_rankOf 24 = .ok (.ineg, 1) := by decide +kernel
theorem dX12_rankOf_25 : decode cX12_rankOf 25 = .ok (.goto 25, 3) := by decide +kernel
theorem dX12_rankOf_28 : decode cX12_rankOf 28 = .ok (.iload_n 2, 1) := by decide +kernel
theorem dX12_rankOf_29 : decode cX12_rankOf 29 = .ok (.iconst 2, 1) := by decide +kernel
theorem dX12_rankOf_30 : decode cX12_rankOf 30 = .ok (.if_icmp .ne 19, 3) := by decide +kernel
theorem dX12_rankOf_33 : decode cX12_rankOf 33 = .ok (.aload_n 0, 1) := by decide +kernel
theorem dX12_rankOf_34 : decode cX12_rankOf 34 = .ok (.iload_n 1, 1) := by decide +kernel
theorem dX12_rankOf_35 : decode cX12_rankOf 35 = .ok (.iconst 2, 1) := by decide +kernel
theorem dX12_rankOf_36 : decode cX12_rankOf 36 = .ok (.invokevirtual 225, 3) := by decide +kernel
theorem dX12_rankOf_39 : decode cX12_rankOf 39 = .ok (.aload_n 0, 1) := by decide +kernel
theorem dX12_rankOf_40 : decode cX12_rankOf 40 = .ok (.iload_n 1, 1) := by decide +kernel
theorem dX12_rankOf_41 : decode cX12_rankOf 41 = .ok (.iconst 0, 1) := by decide +kernel
theorem dX12_rankOf_42 : decode cX12_rankOf 42 = .ok (.invokevirtual 225, 3) := by decide +kernel
theorem dX12_rankOf_45 : decode cX12_rankOf 45 = .ok (.isub, 1) := by decide +kernel
theorem dX12_rankOf_46 : decode cX12_rankOf 46 = .ok (.goto 4, 3) := by decide +kernel
theorem dX12_rankOf_49 : decode cX12_rankOf 49 = .ok (.iconst 0, 1) := by decide +kernel
theorem dX12_rankOf_50 : decode cX12_rankOf 50 = .ok (.ireturn, 1) := by decide +kernel
theorem dX12_overByRule_0 : decode cX12_overByRule 0 = .ok (.iconst 0, 1) := by decide +kernel
theorem dX12_overByRule_1 : decode cX12_overByRule 1 = .ok (.istore_n 3, 1) := by decide +kernel
theorem dX12_overByRule_2 : decode cX12_overByRule 2 = .ok (.iconst 0, 1) := by decide +kernel
theorem dX12_overByRule_3 : decode cX12_overByRule 3 = .ok (.istore 4, 2) := by decide +kernel
theorem dX12_overByRule_5 : decode cX12_overByRule 5 = .ok (.iload 4, 2) := by decide +kernel
theorem dX12_overByRule_7 : decode cX12_overByRule 7 = .ok (.aload_n 0, 1) := by decide +kernel
theorem dX12_overByRule_8 : decode cX12_overByRule 8 = .ok (.getfield 93, 3) := by decide +kernel
theorem dX12_overByRule_11 : decode cX12_overByRule 11 = .ok (.if_icmp .ge 86, 3) := by decide +kernel
theorem dX12_overByRule_14 : decode cX12_overByRule 14 = .ok (.iconst (-1), 1) := by decide +kernel
theorem dX12_overByRule_15 : decode cX12_overByRule 15 = .ok (.istore 5, 2) := by decide +kernel
theorem dX12_overByRule_17 : decode cX12_overByRule 17 = .ok (.iconst 0, 1) := by decide +kernel
theorem dX12_overByRule_18 : decode cX12_overByRule 18 = .ok (.istore 6, 2) := by decide +kernel
theorem dX12_overByRule_20 : decode cX12_overByRule 20 = .ok (.iload 6, 2) := by decide +kernel
theorem dX12_overByRule_22 : decode cX12_overByRule 22 = .ok (.aload_n 0, 1) := by decide +kernel
theorem dX12_overByRule_23 : decode cX12_overByRule 23 = .ok (.getfield 93, 3) := by decide +kernel
theorem dX12_overByRule_26 : decode cX12_overByRule 26 = .ok (.if_icmp .ge 49, 3) := by decide +kernel
theorem dX12_overByRule_29 : decode cX12_overByRule 29 = .ok (.iload_n 3, 1) := by decide +kernel
theorem dX12_overByRule_30 : decode cX12_overByRule 30 = .ok (.iload 6, 2) := by decide +kernel
theorem dX12_overByRule_32 : decode cX12_overByRule 32 = .ok (.invokestatic 219, 3) := by decide +kernel
theorem dX12_overByRule_35 : decode cX12_overByRule 35 = .ok (.ifCond .ne 30, 3) := by decide +kernel
theorem dX12_overByRule_38 : decode cX12_overByRule 38 = .ok (.iload 5, 2) := by decide +kernel
theorem dX12_overByRule_40 : decode cX12_overByRule 40 = .ok (.ifCond .lt 20, 3) := by decide +kernel
theorem dX12_overByRule_43 : decode cX12_overByRule 43 = .ok (.aload_n 0, 1) := by decide +kernel
theorem dX12_overByRule_44 : decode cX12_overByRule 44 = .ok (.iload 6, 2) := by decide +kernel
theorem dX12_overByRule_46 : decode cX12_overByRule 46 = .ok (.iload_n 2, 1) := by decide +kernel
theorem dX12_overByRule_47 : decode cX12_overByRule 47 = .ok (.invokevirtual 277, 3) := by decide +kernel
theorem dX12_overByRule_50 : decode cX12_overByRule 50 = .ok (.aload_n 0, 1) := by decide +kernel
theorem dX12_overByRule_51 : decode cX12_overByRule 51 = .ok (.iload 5, 2) := by decide +kernel
theorem dX12_overByRule_53 : decode cX12_overByRule 53 = .ok (.iload_n 2, 1) := by decide +kernel
theorem dX12_overByRule_54 : decode cX12_overByRule 54 = .ok (.invokevirtual 277, 3) := by decide +kernel
theorem dX12_overByRule_57 : decode cX12_overByRule 57 = .ok (.if_icmp .ge 8, 3) := by decide +kernel
theorem dX12_overByRule_60 : decode cX12_overByRule 60 = .ok (.iload 6, 2) := by decide +kernel
theorem dX12_overByRule_62 : decode cX12_overByRule 62 = .ok (.goto 5, 3) := by decide +kernel
theorem dX12_overByRule_65 : decode cX12_overByRule 65 = .ok (.iload 5, 2) := by decide +kernel
theorem dX12_overByRule_67 : decode cX12_overByRule 67 = .ok (.istore 5, 2) := by decide +kernel
theorem dX12_overByRule_69 : decode cX12_overByRule 69 = .ok (.iinc 6 1, 3) := by decide +kernel
theorem dX12_overByRule_72 : decode cX12_overByRule 72 = .ok (.goto (-52), 3) := by decide +kernel
theorem dX12_overByRule_75 : decode cX12_overByRule 75 = .ok (.aload_n 0, 1) := by decide +kernel
theorem dX12_overByRule_76 : decode cX12_overByRule 76 = .ok (.getfield 43, 3) := by decide +kernel
theorem dX12_overByRule_79 : decode cX12_overByRule 79 = .ok (.iload 4, 2) := by decide +kernel
theorem dX12_overByRule_81 : decode cX12_overByRule 81 = .ok (.iload 5, 2) := by decide +kernel
theorem dX12_overByRule_83 : decode cX12_overByRule 83 = .ok (.iastore, 1) := by decide +kernel
theorem dX12_overByRule_84 : decode cX12_overByRule 84 = .ok (.iload_n 3, 1) := by decide +kernel
theorem dX12_overByRule_85 : decode cX12_overByRule 85 = .ok (.iconst 1, 1) := by decide +kernel
theorem dX12_overByRule_86 : decode cX12_overByRule 86 = .ok (.iload 5, 2) := by decide +kernel
theorem dX12_overByRule_88 : decode cX12_overByRule 88 = .ok (.ishl, 1) := by decide +kernel
theorem dX12_overByRule_89 : decode cX12_overByRule 89 = .ok (.ior, 1) := by decide +kernel
theorem dX12_overByRule_90 : decode cX12_overByRule 90 = .ok (.istore_n 3, 1) := by decide +kernel
theorem dX12_overByRule_91 : decode cX12_overByRule 91 = .ok (.iinc 4 1, 3) := by decide +kernel
theorem dX12_overByRule_94 : decode cX12_overByRule 94 = .ok (.goto (-89), 3) := by decide +kernel
theorem dX12_overByRule_97 : decode cX12_overByRule 97 = .ok (.aload_n 0, 1) := by decide +kernel
theorem dX12_overByRule_98 : decode cX12_overByRule 98 = .ok (.iload_n 1, 1) := by decide +kernel
theorem dX12_overByRule_99 : decode cX12_overByRule 99 = .ok (.invokevirtual 268, 3) := by decide +kernel
theorem dX12_overByRule_102 : decode cX12_overByRule 102 = .ok (.ireturn, 1) := by decide +kernel
theorem dX12_rule_0 : decode cX12_rule 0 = .ok (.iload_n 1, 1) := by decide +kernel
theorem dX12_rule_1 : decode cX12_rule 1 = .ok (.i2l, 1) := by decide +kernel
theorem dX12_rule_2 : decode cX12_rule 2 = .ok (.invokestatic 255, 3) := by decide +kernel
theorem dX12_rule_5 : decode cX12_rule 5 = .ok (.ifCond .eq 15, 3) := by decide +kernel
theorem dX12_rule_8 : decode cX12_rule 8 = .ok (.iload_n 2, 1) := by decide +kernel
theorem dX12_rule_9 : decode cX12_rule 9 = .ok (.i2l, 1) := by decide +kernel
theorem dX12_rule_10 : decode cX12_rule 10 = .ok (.lconst 0, 1) := by decide +kernel
theorem dX12_rule_11 : decode cX12_rule 11 = .ok (.ldc2_w 123, 3) := by decide +kernel
theorem dX12_rule_14 : decode cX12_rule 14 = .ok (.invokestatic 96, 3) := by decide +kernel
theorem dX12_rule_17 : decode cX12_rule 17 = .ok (.ifCond .ne 5, 3) := by decide +kernel
theorem dX12_rule_20 : decode cX12_rule 20 = .ok (.iconst (-1), 1) := by decide +kernel
theorem dX12_rule_21 : decode cX12_rule 21 = .ok (.ireturn, 1) := by decide +kernel
theorem dX12_rule_22 : decode cX12_rule 22 = .ok (.iload_n 2, 1) := by decide +kernel
theorem dX12_rule_23 : decode cX12_rule 23 = .ok (.iconst 4, 1) := by decide +kernel
theorem dX12_rule_24 : decode cX12_rule 24 = .ok (.if_icmp .ge 10, 3) := by decide +kernel
theorem dX12_rule_27 : decode cX12_rule 27 = .ok (.aload_n 0, 1) := by decide +kernel
theorem dX12_rule_28 : decode cX12_rule 28 = .ok (.iload_n 1, 1) := by decide +kernel
theorem dX12_rule_29 : decode cX12_rule 29 = .ok (.iload_n 2, 1) := by decide +kernel
theorem dX12_rule_30 : decode cX12_rule 30 = .ok (.invokevirtual 280, 3) := by decide +kernel
theorem dX12_rule_33 : decode cX12_rule 33 = .ok (.ireturn, 1) := by decide +kernel
theorem dX12_rule_34 : decode cX12_rule 34 = .ok (.iconst 0, 1) := by decide +kernel
theorem dX12_rule_35 : decode cX12_rule 35 = .ok (.istore_n 3, 1) := by decide +kernel
theorem dX12_rule_36 : decode cX12_rule 36 = .ok (.iconst (-1), 1) := by decide +kernel
theorem dX12_rule_37 : decode cX12_rule 37 = .ok (.istore 4, 2) := by decide +kernel
theorem dX12_rule_39 : decode cX12_rule 39 = .ok (.iconst 0, 1) := by decide +kernel
theorem dX12_rule_40 : decode cX12_rule 40 = .ok (.istore 5, 2) := by decide +kernel
theorem dX12_rule_42 : decode cX12_rule 42 = .ok (.iload 5, 2) := by decide +kernel
theorem dX12_rule_44 : decode cX12_rule 44 = .ok (.iconst 4, 1) := by decide +kernel
theorem dX12_rule_45 : decode cX12_rule 45 = .ok (.if_icmp .ge 48, 3) := by decide +kernel
theorem dX12_rule_48 : decode cX12_rule 48 = .ok (.aload_n 0, 1) := by decide +kernel
theorem dX12_rule_49 : decode cX12_rule 49 = .ok (.iload_n 1, 1) := by decide +kernel
theorem dX12_rule_50 : decode cX12_rule 50 = .ok (.iload 5, 2) := by decide +kernel
theorem dX12_rule_52 : decode cX12_rule 52 = .ok (.invokevirtual 280, 3) := by decide +kernel
theorem dX12_rule_55 : decode cX12_rule 55 = .ok (.istore 6, 2) := by decide +kernel
theorem dX12_rule_57 : decode cX12_rule 57 = .ok (.iload 6, 2) := by decide +kernel
theorem dX12_rule_59 : decode cX12_rule 59 = .ok (.iload 4, 2) := by decide +kernel
theorem dX12_rule_61 : decode cX12_rule 61 = .ok (.if_icmp .le 8, 3) := by decide +kernel
theorem dX12_rule_64 : decode cX12_rule 64 = .ok (.iload 5, 2) := by decide +kernel
theorem dX12_rule_66 : decode cX12_rule 66 = .ok (.goto 4, 3) := by decide +kernel
theorem dX12_rule_69 : decode cX12_rule 69 = .ok (.iload_n 3, 1) := by decide +kernel
theorem dX12_rule_70 : decode cX12_rule 70 = .ok (.istore_n 3, 1) := by decide +kernel
theorem dX12_rule_71 : decode cX12_rule 71 = .ok (.iload 6, 2) := by decide +kernel
theorem dX12_rule_73 : decode cX12_rule 73 = .ok (.iload 4, 2) := by decide +kernel
theorem dX12_rule_75 : decode cX12_rule 75 = .ok (.if_icmp .le 8, 3) := by decide +kernel
theorem dX12_rule_78 : decode cX12_rule 78 = .ok (.iload 6, 2) := by decide +kernel
theorem dX12_rule_80 : decode cX12_rule 80 = .ok (.goto 5, 3) := by decide +kernel
theorem dX12_rule_83 : decode cX12_rule 83 = .ok (.iload 4, 2) := by decide +kernel
theorem dX12_rule_85 : decode cX12_rule 85 = .ok (.istore 4, 2) := by decide +kernel
theorem dX12_rule_87 : decode cX12_rule 87 = .ok (.iinc 5 1, 3) := by decide +kernel
theorem dX12_rule_90 : decode cX12_rule 90 = .ok (.goto (-48), 3) := by decide +kernel
theorem dX12_rule_93 : decode cX12_rule 93 = .ok (.iload_n 3, 1) := by decide +kernel
theorem dX12_rule_94 : decode cX12_rule 94 = .ok (.ireturn, 1) := by decide +kernel
theorem dX12_waitsFor_0 : decode cX12_waitsFor 0 = .ok (.iconst 0, 1) := by decide +kernel
theorem dX12_waitsFor_1 : decode cX12_waitsFor 1 = .ok (.istore_n 3, 1) := by decide +kernel
theorem dX12_waitsFor_2 : decode cX12_waitsFor 2 = .ok (.iload_n 3, 1) := by decide +kernel
theorem dX12_waitsFor_3 : decode cX12_waitsFor 3 = .ok (.bipush 24, 2) := by decide +kernel
theorem dX12_waitsFor_5 : decode cX12_waitsFor 5 = .ok (.if_icmp .ge 21, 3) := by decide +kernel
theorem dX12_waitsFor_8 : decode cX12_waitsFor 8 = .ok (.aload_n 0, 1) := by decide +kernel
theorem dX12_waitsFor_9 : decode cX12_waitsFor 9 = .ok (.getfield 49, 3) := by decide +kernel
theorem dX12_waitsFor_12 : decode cX12_waitsFor 12 = .ok (.iload_n 3, 1) := by decide +kernel
theorem dX12_waitsFor_13 : decode cX12_waitsFor 13 = .ok (.aload_n 0, 1) := by decide +kernel
theorem dX12_waitsFor_14 : decode cX12_waitsFor 14 = .ok (.getfield 36, 3) := by decide +kernel
theorem dX12_waitsFor_17 : decode cX12_waitsFor 17 = .ok (.iload_n 3, 1) := by decide +kernel
theorem dX12_waitsFor_18 : decode cX12_waitsFor 18 = .ok (.iaload, 1) := by decide +kernel
theorem dX12_waitsFor_19 : decode cX12_waitsFor 19 = .ok (.iastore, 1) := by decide +kernel
theorem dX12_waitsFor_20 : decode cX12_waitsFor 20 = .ok (.iinc 3 1, 3) := by decide +kernel
theorem dX12_waitsFor_23 : decode cX12_waitsFor 23 = .ok (.goto (-21), 3) := by decide +kernel
theorem dX12_waitsFor_26 : decode cX12_waitsFor 26 = .ok (.aload_n 0, 1) := by decide +kernel
theorem dX12_waitsFor_27 : decode cX12_waitsFor 27 = .ok (.getfield 210, 3) := by decide +kernel
theorem dX12_waitsFor_30 : decode cX12_waitsFor 30 = .ok (.istore_n 3, 1) := by decide +kernel
theorem dX12_waitsFor_31 : decode cX12_waitsFor 31 = .ok (.iconst 0, 1) := by decide +kernel
theorem dX12_waitsFor_32 : decode cX12_waitsFor 32 = .ok (.istore 4, 2) := by decide +kernel
theorem dX12_waitsFor_34 : decode cX12_waitsFor 34 = .ok (.iload 4, 2) := by decide +kernel
theorem dX12_waitsFor_36 : decode cX12_waitsFor 36 = .ok (.bipush 61, 2) := by decide +kernel
theorem dX12_waitsFor_38 : decode cX12_waitsFor 38 = .ok (.if_icmp .gt 92, 3) := by decide +kernel
theorem dX12_waitsFor_41 : decode cX12_waitsFor 41 = .ok (.iconst 0, 1) := by decide +kernel
theorem dX12_waitsFor_42 : decode cX12_waitsFor 42 = .ok (.istore 5, 2) := by decide +kernel
theorem dX12_waitsFor_44 : decode cX12_waitsFor 44 = .ok (.iload 5, 2) := by decide +kernel
theorem dX12_waitsFor_46 : decode cX12_waitsFor 46 = .ok (.bipush 24, 2) := by decide +kernel
theorem dX12_waitsFor_48 : decode cX12_waitsFor 48 = .ok (.if_icmp .ge 23, 3) := by decide +kernel
theorem dX12_waitsFor_51 : decode cX12_waitsFor 51 = .ok (.aload_n 0, 1) := by decide +kernel
theorem dX12_waitsFor_52 : decode cX12_waitsFor 52 = .ok (.getfield 36, 3) := by decide +kernel
theorem dX12_waitsFor_55 : decode cX12_waitsFor 55 = .ok (.iload 5, 2) := by decide +kernel
theorem dX12_waitsFor_57 : decode cX12_waitsFor 57 = .ok (.aload_n 0, 1) := by decide +kernel
theorem dX12_waitsFor_58 : decode cX12_waitsFor 58 = .ok (.getfield 49, 3) := by decide +kernel
theorem dX12_waitsFor_61 : decode cX12_waitsFor 61 = .ok (.iload 5, 2) := by decide +kernel
theorem dX12_waitsFor_63 : decode cX12_waitsFor 63 = .ok (.iaload, 1) := by decide +kernel
theorem dX12_waitsFor_64 : decode cX12_waitsFor 64 = .ok (.iastore, 1) := by decide +kernel
theorem dX12_waitsFor_65 : decode cX12_waitsFor 65 = .ok (.iinc 5 1, 3) := by decide +kernel
theorem dX12_waitsFor_68 : decode cX12_waitsFor 68 = .ok (.goto (-24), 3) := by decide +kernel
theorem dX12_waitsFor_71 : decode cX12_waitsFor 71 = .ok (.aload_n 0, 1) := by decide +kernel
theorem dX12_waitsFor_72 : decode cX12_waitsFor 72 = .ok (.iload_n 3, 1) := by decide +kernel
theorem dX12_waitsFor_73 : decode cX12_waitsFor 73 = .ok (.putfield 210, 3) := by decide +kernel
theorem dX12_waitsFor_76 : decode cX12_waitsFor 76 = .ok (.iload 4, 2) := by decide +kernel
theorem dX12_waitsFor_78 : decode cX12_waitsFor 78 = .ok (.bipush 60, 2) := by decide +kernel
theorem dX12_waitsFor_80 : decode cX12_waitsFor 80 = .ok (.if_icmp .le 7, 3) := by decide +kernel
theorem dX12_waitsFor_83 : decode cX12_waitsFor 83 = .ok (.iconst 0, 1) := by decide +kernel
theorem dX12_waitsFor_84 : decode cX12_waitsFor 84 = .ok (.goto 5, 3) := by decide +kernel
theorem dX12_waitsFor_87 : decode cX12_waitsFor 87 = .ok (.iload 4, 2) := by decide +kernel
theorem dX12_waitsFor_89 : decode cX12_waitsFor 89 = .ok (.istore 5, 2) := by decide +kernel
theorem dX12_waitsFor_91 : decode cX12_waitsFor 91 = .ok (.aload_n 0, 1) := by decide +kernel
theorem dX12_waitsFor_92 : decode cX12_waitsFor 92 = .ok (.iload 5, 2) := by decide +kernel
theorem dX12_waitsFor_94 : decode cX12_waitsFor 94 = .ok (.invokevirtual 235, 3) := by decide +kernel
theorem dX12_waitsFor_97 : decode cX12_waitsFor 97 = .ok (.aload_n 0, 1) := by decide +kernel
theorem dX12_waitsFor_98 : decode cX12_waitsFor 98 = .ok (.aload_n 0, 1) := by decide +kernel
theorem dX12_waitsFor_99 : decode cX12_waitsFor 99 = .ok (.iload_n 1, 1) := by decide +kernel
theorem dX12_waitsFor_100 : decode cX12_waitsFor 100 = .ok (.iload_n 2, 1) := by decide +kernel
theorem dX12_waitsFor_101 : decode cX12_waitsFor 101 = .ok (.invokevirtual 249, 3) := by decide +kernel
theorem dX12_waitsFor_104 : decode cX12_waitsFor 104 = .ok (.putfield 283, 3) := by decide +kernel
theorem dX12_waitsFor_107 : decode cX12_waitsFor 107 = .ok (.aload_n 0, 1) := by decide +kernel
theorem dX12_waitsFor_108 : decode cX12_waitsFor 108 = .ok (.getfield 283, 3) := by decide +kernel
theorem dX12_waitsFor_111 : decode cX12_waitsFor 111 = .ok (.ifCond .ne 10, 3) := by decide +kernel
theorem dX12_waitsFor_114 : decode cX12_waitsFor 114 = .ok (.iload 4, 2) := by decide +kernel
theorem dX12_waitsFor_116 : decode cX12_waitsFor 116 = .ok (.bipush 60, 2) := by decide +kernel
theorem dX12_waitsFor_118 : decode cX12_waitsFor 118 = .ok (.if_icmp .le 6, 3) := by decide +kernel
theorem dX12_waitsFor_121 : decode cX12_waitsFor 121 = .ok (.iload 5, 2) := by decide +kernel
theorem dX12_waitsFor_123 : decode cX12_waitsFor 123 = .ok (.ireturn, 1) := by decide +kernel
theorem dX12_waitsFor_124 : decode cX12_waitsFor 124 = .ok (.iinc 4 1, 3) := by decide +kernel
theorem dX12_waitsFor_127 : decode cX12_waitsFor 127 = .ok (.goto (-93), 3) := by decide +kernel
theorem dX12_waitsFor_130 : decode cX12_waitsFor 130 = .ok (.iconst 0, 1) := by decide +kernel
theorem dX12_waitsFor_131 : decode cX12_waitsFor 131 = .ok (.ireturn, 1) := by decide +kernel
theorem dX12_waits_0 : decode cX12_waits 0 = .ok (.aload_n 0, 1) := by decide +kernel
theorem dX12_waits_1 : decode cX12_waits 1 = .ok (.iload_n 1, 1) := by decide +kernel
theorem dX12_waits_2 : decode cX12_waits 2 = .ok (.invokevirtual 252, 3) := by decide +kernel
theorem dX12_waits_5 : decode cX12_waits 5 = .ok (.iconst (-1), 1) := by decide +kernel
theorem dX12_waits_6 : decode cX12_waits 6 = .ok (.if_icmp .eq 17, 3) := by decide +kernel
theorem dX12_waits_9 : decode cX12_waits 9 = .ok (.iload_n 2, 1) := by decide +kernel
theorem dX12_waits_10 : decode cX12_waits 10 = .ok (.i2l, 1) := by decide +kernel
theorem dX12_waits_11 : decode cX12_waits 11 = .ok (.invokestatic 255, 3) := by decide +kernel
theorem dX12_waits_14 : decode cX12_waits 14 = .ok (.ifCond .eq 9, 3) := by decide +kernel
theorem dX12_waits_17 : decode cX12_waits 17 = .ok (.iload_n 3, 1) := by decide +kernel
theorem dX12_waits_18 : decode cX12_waits 18 = .ok (.bipush (-2), 2) := by decide +kernel
theorem dX12_waits_20 : decode cX12_waits 20 = .ok (.if_icmp .ge 5, 3) := by decide +kernel
theorem dX12_waits_23 : decode cX12_waits 23 = .ok (.iconst (-1), 1) := by decide +kernel
theorem dX12_waits_24 : decode cX12_waits 24 = .ok (.ireturn, 1) := by decide +kernel
theorem dX12_waits_25 : decode cX12_waits 25 = .ok (.aload_n 0, 1) := by decide +kernel
theorem dX12_waits_26 : decode cX12_waits 26 = .ok (.iload_n 1, 1) := by decide +kernel
theorem dX12_waits_27 : decode cX12_waits 27 = .ok (.invokevirtual 252, 3) := by decide +kernel
theorem dX12_waits_30 : decode cX12_waits 30 = .ok (.ifCond .ge 9, 3) := by decide +kernel
theorem dX12_waits_33 : decode cX12_waits 33 = .ok (.aload_n 0, 1) := by decide +kernel
theorem dX12_waits_34 : decode cX12_waits 34 = .ok (.iload_n 1, 1) := by decide +kernel
theorem dX12_waits_35 : decode cX12_waits 35 = .ok (.invokevirtual 252, 3) := by decide +kernel
theorem dX12_waits_38 : decode cX12_waits 38 = .ok (.ireturn, 1) := by decide +kernel
theorem dX12_waits_39 : decode cX12_waits 39 = .ok (.aload_n 0, 1) := by decide +kernel
theorem dX12_waits_40 : decode cX12_waits 40 = .ok (.invokevirtual 146, 3) := by decide +kernel
theorem dX12_waits_43 : decode cX12_waits 43 = .ok (.aload_n 0, 1) := by decide +kernel
theorem dX12_waits_44 : decode cX12_waits 44 = .ok (.iload_n 1, 1) := by decide +kernel
theorem dX12_waits_45 : decode cX12_waits 45 = .ok (.invokevirtual 258, 3) := by decide +kernel
theorem dX12_waits_48 : decode cX12_waits 48 = .ok (.istore 4, 2) := by decide +kernel
theorem dX12_waits_50 : decode cX12_waits 50 = .ok (.iconst 0, 1) := by decide +kernel
theorem dX12_waits_51 : decode cX12_waits 51 = .ok (.istore 5, 2) := by decide +kernel
theorem dX12_waits_53 : decode cX12_waits 53 = .ok (.bipush (-2), 2) := by decide +kernel
theorem dX12_waits_55 : decode cX12_waits 55 = .ok (.istore 6, 2) := by decide +kernel
theorem dX12_waits_57 : decode cX12_waits 57 = .ok (.iconst 0, 1) := by decide +kernel
theorem dX12_waits_58 : decode cX12_waits 58 = .ok (.istore 7, 2) := by decide +kernel
theorem dX12_waits_60 : decode cX12_waits 60 = .ok (.iload 7, 2) := by decide +kernel
theorem dX12_waits_62 : decode cX12_waits 62 = .ok (.iload 4, 2) := by decide +kernel
theorem dX12_waits_64 : decode cX12_waits 64 = .ok (.if_icmp .ge 45, 3) := by decide +kernel
theorem dX12_waits_67 : decode cX12_waits 67 = .ok (.aload_n 0, 1) := by decide +kernel
theorem dX12_waits_68 : decode cX12_waits 68 = .ok (.aload_n 0, 1) := by decide +kernel
theorem dX12_waits_69 : decode cX12_waits 69 = .ok (.iload_n 1, 1) := by decide +kernel
theorem dX12_waits_70 : decode cX12_waits 70 = .ok (.iload 7, 2) := by decide +kernel
theorem dX12_waits_72 : decode cX12_waits 72 = .ok (.invokevirtual 246, 3) := by decide +kernel
theorem dX12_waits_75 : decode cX12_waits 75 = .ok (.iload_n 2, 1) := by decide +kernel
theorem dX12_waits_76 : decode cX12_waits 76 = .ok (.invokevirtual 287, 3) := by decide +kernel
theorem dX12_waits_79 : decode cX12_waits 79 = .ok (.istore 8, 2) := by decide +kernel
theorem dX12_waits_81 : decode cX12_waits 81 = .ok (.iload 5, 2) := by decide +kernel
theorem dX12_waits_83 : decode cX12_waits 83 = .ok (.iload 8, 2) := by decide +kernel
theorem dX12_waits_85 : decode cX12_waits 85 = .ok (.iadd, 1) := by decide +kernel
theorem dX12_waits_86 : decode cX12_waits 86 = .ok (.istore 5, 2) := by decide +kernel
theorem dX12_waits_88 : decode cX12_waits 88 = .ok (.iload 7, 2) := by decide +kernel
theorem dX12_waits_90 : decode cX12_waits 90 = .ok (.iload_n 3, 1) := by decide +kernel
theorem dX12_waits_91 : decode cX12_waits 91 = .ok (.if_icmp .ne 8, 3) := by decide +kernel
theorem dX12_waits_94 : decode cX12_waits 94 = .ok (.iload 8, 2) := by decide +kernel
theorem dX12_waits_96 : decode cX12_waits 96 = .ok (.goto 5, 3) := by decide +kernel
theorem dX12_waits_99 : decode cX12_waits 99 = .ok (.iload 6, 2) := by decide +kernel
theorem dX12_waits_101 : decode cX12_waits 101 = .ok (.istore 6, 2) := by decide +kernel
theorem dX12_waits_103 : decode cX12_waits 103 = .ok (.iinc 7 1, 3) := by decide +kernel
theorem dX12_waits_106 : decode cX12_waits 106 = .ok (.goto (-46), 3) := by decide +kernel
theorem dX12_waits_109 : decode cX12_waits 109 = .ok (.iload_n 3, 1) := by decide +kernel
theorem dX12_waits_110 : decode cX12_waits 110 = .ok (.ifCond .lt 8, 3) := by decide +kernel
theorem dX12_waits_113 : decode cX12_waits 113 = .ok (.iload 6, 2) := by decide +kernel
theorem dX12_waits_115 : decode cX12_waits 115 = .ok (.goto 17, 3) := by decide +kernel
theorem dX12_waits_118 : decode cX12_waits 118 = .ok (.iload_n 3, 1) := by decide +kernel
theorem dX12_waits_119 : decode cX12_waits 119 = .ok (.iconst (-1), 1) := by decide +kernel
theorem dX12_waits_120 : decode cX12_waits 120 = .ok (.if_icmp .ne 8, 3) := by decide +kernel
theorem dX12_waits_123 : decode cX12_waits 123 = .ok (.iload 5, 2) := by decide +kernel
theorem dX12_waits_125 : decode cX12_waits 125 = .ok (.goto 7, 3) := by decide +kernel
theorem dX12_waits_128 : decode cX12_waits 128 = .ok (.aload_n 0, 1) := by decide +kernel
theorem dX12_waits_129 : decode cX12_waits 129 = .ok (.getfield 210, 3) := by decide +kernel
theorem dX12_waits_132 : decode cX12_waits 132 = .ok (.ireturn, 1) := by decide +kernel
theorem dX12_soonestOn_0 : decode cX12_soonestOn 0 = .ok (.iload_n 1, 1) := by decide +kernel
theorem dX12_soonestOn_1 : decode cX12_soonestOn 1 = .ok (.aload_n 0, 1) := by decide +kernel
theorem dX12_soonestOn_2 : decode cX12_soonestOn 2 = .ok (.getfield 93, 3) := by decide +kernel
theorem dX12_soonestOn_5 : decode cX12_soonestOn 5 = .ok (.if_icmp .ne 101, 3) := by decide +kernel
theorem dX12_soonestOn_8 : decode cX12_soonestOn 8 = .ok (.aload_n 0, 1) := by decide +kernel
theorem dX12_soonestOn_9 : decode cX12_soonestOn 9 = .ok (.invokevirtual 146, 3) := by decide +kernel
theorem dX12_soonestOn_12 : decode cX12_soonestOn 12 = .ok (.iconst 1, 1) := by decide +kernel
theorem dX12_soonestOn_13 : decode cX12_soonestOn 13 = .ok (.istore 4, 2) := by decide +kernel
theorem dX12_soonestOn_15 : decode cX12_soonestOn 15 = .ok (.iconst 0, 1) := by decide +kernel
theorem dX12_soonestOn_16 : decode cX12_soonestOn 16 = .ok (.istore 5, 2) := by decide +kernel
theorem dX12_soonestOn_18 : decode cX12_soonestOn 18 = .ok (.iload 5, 2) := by decide +kernel
theorem dX12_soonestOn_20 : decode cX12_soonestOn 20 = .ok (.aload_n 0, 1) := by decide +kernel
theorem dX12_soonestOn_21 : decode cX12_soonestOn 21 = .ok (.getfield 93, 3) := by decide +kernel
theorem dX12_soonestOn_24 : decode cX12_soonestOn 24 = .ok (.if_icmp .ge 45, 3) := by decide +kernel
theorem dX12_soonestOn_27 : decode cX12_soonestOn 27 = .ok (.aload_n 0, 1) := by decide +kernel
theorem dX12_soonestOn_28 : decode cX12_soonestOn 28 = .ok (.aload_n 0, 1) := by decide +kernel
theorem dX12_soonestOn_29 : decode cX12_soonestOn 29 = .ok (.getfield 43, 3) := by decide +kernel
theorem dX12_soonestOn_32 : decode cX12_soonestOn 32 = .ok (.iload 5, 2) := by decide +kernel
theorem dX12_soonestOn_34 : decode cX12_soonestOn 34 = .ok (.iaload, 1) := by decide +kernel
theorem dX12_soonestOn_35 : decode cX12_soonestOn 35 = .ok (.iload_n 3, 1) := by decide +kernel
theorem dX12_soonestOn_36 : decode cX12_soonestOn 36 = .ok (.invokevirtual 287, 3) := by decide +kernel
theorem dX12_soonestOn_39 : decode cX12_soonestOn 39 = .ok (.istore 6, 2) := by decide +kernel
theorem dX12_soonestOn_41 : decode cX12_soonestOn 41 = .ok (.iload 4, 2) := by decide +kernel
theorem dX12_soonestOn_43 : decode cX12_soonestOn 43 = .ok (.aload_n 0, 1) := by decide +kernel
theorem dX12_soonestOn_44 : decode cX12_soonestOn 44 = .ok (.getfield 283, 3) := by decide +kernel
theorem dX12_soonestOn_47 : decode cX12_soonestOn 47 = .ok (.ifCond .eq 12, 3) := by decide +kernel
theorem dX12_soonestOn_50 : decode cX12_soonestOn 50 = .ok (.iload 6, 2) := by decide +kernel
theorem dX12_soonestOn_52 : decode cX12_soonestOn 52 = .ok (.ifCond .lt 7, 3) := by decide +kernel
theorem dX12_soonestOn_55 : decode cX12_soonestOn 55 = .ok (.iconst 1, 1) := by decide +kernel
theorem dX12_soonestOn_56 : decode cX12_soonestOn 56 = .ok (.goto 4, 3) := by decide +kernel
theorem dX12_soonestOn_59 : decode cX12_soonestOn 59 = .ok (.iconst 0, 1) := by decide +kernel
theorem dX12_soonestOn_60 : decode cX12_soonestOn 60 = .ok (.iand, 1) := by decide +kernel
theorem dX12_soonestOn_61 : decode cX12_soonestOn 61 = .ok (.istore 4, 2) := by decide +kernel
theorem dX12_soonestOn_63 : decode cX12_soonestOn 63 = .ok (.iinc 5 1, 3) := by decide +kernel
theorem dX12_soonestOn_66 : decode cX12_soonestOn 66 = .ok (.goto (-48), 3) := by decide +kernel
theorem dX12_soonestOn_69 : decode cX12_soonestOn 69 = .ok (.iload 4, 2) := by decide +kernel
theorem dX12_soonestOn_71 : decode cX12_soonestOn 71 = .ok (.ifCond .eq 34, 3) := by decide +kernel
theorem dX12_soonestOn_74 : decode cX12_soonestOn 74 = .ok (.aload_n 0, 1) := by decide +kernel
theorem dX12_soonestOn_75 : decode cX12_soonestOn 75 = .ok (.getfield 290, 3) := by decide +kernel
theorem dX12_soonestOn_78 : decode cX12_soonestOn 78 = .ok (.ifCond .lt 14, 3) := by decide +kernel
theorem dX12_soonestOn_81 : decode cX12_soonestOn 81 = .ok (.aload_n 0, 1) := by decide +kernel
theorem dX12_soonestOn_82 : decode cX12_soonestOn 82 = .ok (.getfield 210, 3) := by decide +kernel
theorem dX12_soonestOn_85 : decode cX12_soonestOn 85 = .ok (.aload_n 0, 1) := by decide +kernel
theorem dX12_soonestOn_86 : decode cX12_soonestOn 86 = .ok (.getfield 290, 3) := by decide +kernel
theorem dX12_soonestOn_89 : decode cX12_soonestOn 89 = .ok (.if_icmp .ge 16, 3) := by decide +kernel
theorem dX12_soonestOn_92 : decode cX12_soonestOn 92 = .ok (.aload_n 0, 1) := by decide +kernel
theorem dX12_soonestOn_93 : decode cX12_soonestOn 93 = .ok (.aload_n 0, 1) := by decide +kernel
theorem dX12_soonestOn_94 : decode cX12_soonestOn 94 = .ok (.getfield 210, 3) := by decide +kernel
theorem dX12_soonestOn_97 : decode cX12_soonestOn 97 = .ok (.putfield 290, 3) := by decide +kernel
theorem dX12_soonestOn_100 : decode cX12_soonestOn 100 = .ok (.aload_n 0, 1) := by decide +kernel
theorem dX12_soonestOn_101 : decode cX12_soonestOn 101 = .ok (.iconst 0, 1) := by decide +kernel
theorem dX12_soonestOn_102 : decode cX12_soonestOn 102 = .ok (.invokevirtual 271, 3) := by decide +kernel
theorem dX12_soonestOn_105 : decode cX12_soonestOn 105 = .ok (.return_, 1) := by decide +kernel
theorem dX12_soonestOn_106 : decode cX12_soonestOn 106 = .ok (.iconst 0, 1) := by decide +kernel
theorem dX12_soonestOn_107 : decode cX12_soonestOn 107 = .ok (.istore 4, 2) := by decide +kernel
theorem dX12_soonestOn_109 : decode cX12_soonestOn 109 = .ok (.iload 4, 2) := by decide +kernel
theorem dX12_soonestOn_111 : decode cX12_soonestOn 111 = .ok (.aload_n 0, 1) := by decide +kernel
theorem dX12_soonestOn_112 : decode cX12_soonestOn 112 = .ok (.getfield 93, 3) := by decide +kernel
theorem dX12_soonestOn_115 : decode cX12_soonestOn 115 = .ok (.if_icmp .ge 40, 3) := by decide +kernel
theorem dX12_soonestOn_118 : decode cX12_soonestOn 118 = .ok (.iload_n 2, 1) := by decide +kernel
theorem dX12_soonestOn_119 : decode cX12_soonestOn 119 = .ok (.iload 4, 2) := by decide +kernel
theorem dX12_soonestOn_121 : decode cX12_soonestOn 121 = .ok (.invokestatic 219, 3) := by decide +kernel
theorem dX12_soonestOn_124 : decode cX12_soonestOn 124 = .ok (.ifCond .ne 25, 3) := by decide +kernel
theorem dX12_soonestOn_127 : decode cX12_soonestOn 127 = .ok (.aload_n 0, 1) := by decide +kernel
theorem dX12_soonestOn_128 : decode cX12_soonestOn 128 = .ok (.getfield 43, 3) := by decide +kernel
theorem dX12_soonestOn_131 : decode cX12_soonestOn 131 = .ok (.iload_n 1, 1) := by decide +kernel
theorem dX12_soonestOn_132 : decode cX12_soonestOn 132 = .ok (.iload 4, 2) := by decide +kernel
theorem dX12_soonestOn_134 : decode cX12_soonestOn 134 = .ok (.iastore, 1) := by decide +kernel
theorem dX12_soonestOn_135 : decode cX12_soonestOn 135 = .ok (.aload_n 0, 1) := by decide +kernel
theorem dX12_soonestOn_136 : decode cX12_soonestOn 136 = .ok (.iload_n 1, 1) := by decide +kernel
theorem dX12_soonestOn_137 : decode cX12_soonestOn 137 = .ok (.iconst 1, 1) := by decide +kernel
theorem dX12_soonestOn_138 : decode cX12_soonestOn 138 = .ok (.iadd, 1) := by decide +kernel
theorem dX12_soonestOn_139 : decode cX12_soonestOn 139 = .ok (.iload_n 2, 1) := by decide +kernel
theorem dX12_soonestOn_140 : decode cX12_soonestOn 140 = .ok (.iconst 1, 1) := by decide +kernel
theorem dX12_soonestOn_141 : decode cX12_soonestOn 141 = .ok (.iload 4, 2) := by decide +kernel
theorem dX12_soonestOn_143 : decode cX12_soonestOn 143 = .ok (.ishl, 1) := by decide +kernel
theorem dX12_soonestOn_144 : decode cX12_soonestOn 144 = .ok (.ior, 1) := by decide +kernel
theorem dX12_soonestOn_145 : decode cX12_soonestOn 145 = .ok (.iload_n 3, 1) := by decide +kernel
theorem dX12_soonestOn_146 : decode cX12_soonestOn 146 = .ok (.invokevirtual 293, 3) := by decide +kernel
theorem dX12_soonestOn_149 : decode cX12_soonestOn 149 = .ok (.iinc 4 1, 3) := by decide +kernel
theorem dX12_soonestOn_152 : decode cX12_soonestOn 152 = .ok (.goto (-43), 3) := by decide +kernel
theorem dX12_soonestOn_155 : decode cX12_soonestOn 155 = .ok (.return_, 1) := by decide +kernel
theorem dX12_soonest_0 : decode cX12_soonest 0 = .ok (.iload_n 1, 1) := by decide +kernel
theorem dX12_soonest_1 : decode cX12_soonest 1 = .ok (.i2l, 1) := by decide +kernel
theorem dX12_soonest_2 : decode cX12_soonest 2 = .ok (.invokestatic 255, 3) := by decide +kernel
theorem dX12_soonest_5 : decode cX12_soonest 5 = .ok (.ifCond .eq 8, 3) := by decide +kernel
theorem dX12_soonest_8 : decode cX12_soonest 8 = .ok (.iload_n 2, 1) := by decide +kernel
theorem dX12_soonest_9 : decode cX12_soonest 9 = .ok (.iconst (-1), 1) := by decide +kernel
theorem dX12_soonest_10 : decode cX12_soonest 10 = .ok (.if_icmp .ge 5, 3) := by decide +kernel
theorem dX12_soonest_13 : decode cX12_soonest 13 = .ok (.iconst (-1), 1) := by decide +kernel
theorem dX12_soonest_14 : decode cX12_soonest 14 = .ok (.ireturn, 1) := by decide +kernel
theorem dX12_soonest_15 : decode cX12_soonest 15 = .ok (.aload_n 0, 1) := by decide +kernel
theorem dX12_soonest_16 : decode cX12_soonest 16 = .ok (.getfield 93, 3) := by decide +kernel
theorem dX12_soonest_19 : decode cX12_soonest 19 = .ok (.iconst 5, 1) := by decide +kernel
theorem dX12_soonest_20 : decode cX12_soonest 20 = .ok (.if_icmp .le 6, 3) := by decide +kernel
theorem dX12_soonest_23 : decode cX12_soonest 23 = .ok (.bipush (-5), 2) := by decide +kernel
theorem dX12_soonest_25 : decode cX12_soonest 25 = .ok (.ireturn, 1) := by decide +kernel
theorem dX12_soonest_26 : decode cX12_soonest 26 = .ok (.aload_n 0, 1) := by decide +kernel
theorem dX12_soonest_27 : decode cX12_soonest 27 = .ok (.bipush (-2), 2) := by decide +kernel
theorem dX12_soonest_29 : decode cX12_soonest 29 = .ok (.putfield 290, 3) := by decide +kernel
theorem dX12_soonest_32 : decode cX12_soonest 32 = .ok (.aload_n 0, 1) := by decide +kernel
theorem dX12_soonest_33 : decode cX12_soonest 33 = .ok (.iconst 0, 1) := by decide +kernel
theorem dX12_soonest_34 : decode cX12_soonest 34 = .ok (.iconst 0, 1) := by decide +kernel
theorem dX12_soonest_35 : decode cX12_soonest 35 = .ok (.iload_n 1, 1) := by decide +kernel
theorem dX12_soonest_36 : decode cX12_soonest 36 = .ok (.invokevirtual 293, 3) := by decide +kernel
theorem dX12_soonest_39 : decode cX12_soonest 39 = .ok (.iload_n 2, 1) := by decide +kernel
theorem dX12_soonest_40 : decode cX12_soonest 40 = .ok (.ifCond .lt 10, 3) := by decide +kernel
theorem dX12_soonest_43 : decode cX12_soonest 43 = .ok (.aload_n 0, 1) := by decide +kernel
theorem dX12_soonest_44 : decode cX12_soonest 44 = .ok (.getfield 290, 3) := by decide +kernel
theorem dX12_soonest_47 : decode cX12_soonest 47 = .ok (.ifCond .ge 8, 3) := by decide +kernel
theorem dX12_soonest_50 : decode cX12_soonest 50 = .ok (.aload_n 0, 1) := by decide +kernel
theorem dX12_soonest_51 : decode cX12_soonest 51 = .ok (.getfield 290, 3) := by decide +kernel
theorem dX12_soonest_54 : decode cX12_soonest 54 = .ok (.ireturn, 1) := by decide +kernel
theorem dX12_soonest_55 : decode cX12_soonest 55 = .ok (.iload_n 2, 1) := by decide +kernel
theorem dX12_soonest_56 : decode cX12_soonest 56 = .ok (.aload_n 0, 1) := by decide +kernel
theorem dX12_soonest_57 : decode cX12_soonest 57 = .ok (.getfield 93, 3) := by decide +kernel
theorem dX12_soonest_60 : decode cX12_soonest 60 = .ok (.if_icmp .ge 12, 3) := by decide +kernel
theorem dX12_soonest_63 : decode cX12_soonest 63 = .ok (.aload_n 0, 1) := by decide +kernel
theorem dX12_soonest_64 : decode cX12_soonest 64 = .ok (.getfield 46, 3) := by decide +kernel
theorem dX12_soonest_67 : decode cX12_soonest 67 = .ok (.iload_n 2, 1) := by decide +kernel
theorem dX12_soonest_68 : decode cX12_soonest 68 = .ok (.iaload, 1) := by decide +kernel
theorem dX12_soonest_69 : decode cX12_soonest 69 = .ok (.goto 5, 3) := by decide +kernel
theorem dX12_soonest_72 : decode cX12_soonest 72 = .ok (.bipush (-2), 2) := by decide +kernel
theorem dX12_soonest_74 : decode cX12_soonest 74 = .ok (.ireturn, 1) := by decide +kernel
theorem dX12_strength_0 : decode cX12_strength 0 = .ok (.aload_n 0, 1) := by decide +kernel
theorem dX12_strength_1 : decode cX12_strength 1 = .ok (.iload_n 1, 1) := by decide +kernel
theorem dX12_strength_2 : decode cX12_strength 2 = .ok (.invokevirtual 252, 3) := by decide +kernel
theorem dX12_strength_5 : decode cX12_strength 5 = .ok (.iconst (-1), 1) := by decide +kernel
theorem dX12_strength_6 : decode cX12_strength 6 = .ok (.if_icmp .eq 11, 3) := by decide +kernel
theorem dX12_strength_9 : decode cX12_strength 9 = .ok (.iload_n 2, 1) := by decide +kernel
theorem dX12_strength_10 : decode cX12_strength 10 = .ok (.i2l, 1) := by decide +kernel
theorem dX12_strength_11 : decode cX12_strength 11 = .ok (.invokestatic 255, 3) := by decide +kernel
theorem dX12_strength_14 : decode cX12_strength 14 = .ok (.ifCond .ne 5, 3) := by decide +kernel
theorem dX12_strength_17 : decode cX12_strength 17 = .ok (.iconst (-1), 1) := by decide +kernel
theorem dX12_strength_18 : decode cX12_strength 18 = .ok (.ireturn, 1) := by decide +kernel
theorem dX12_strength_19 : decode cX12_strength 19 = .ok (.aload_n 0, 1) := by decide +kernel
theorem dX12_strength_20 : decode cX12_strength 20 = .ok (.iload_n 1, 1) := by decide +kernel
theorem dX12_strength_21 : decode cX12_strength 21 = .ok (.invokevirtual 252, 3) := by decide +kernel
theorem dX12_strength_24 : decode cX12_strength 24 = .ok (.ifCond .ge 9, 3) := by decide +kernel
theorem dX12_strength_27 : decode cX12_strength 27 = .ok (.aload_n 0, 1) := by decide +kernel
theorem dX12_strength_28 : decode cX12_strength 28 = .ok (.iload_n 1, 1) := by decide +kernel
theorem dX12_strength_29 : decode cX12_strength 29 = .ok (.invokevirtual 252, 3) := by decide +kernel
theorem dX12_strength_32 : decode cX12_strength 32 = .ok (.ireturn, 1) := by decide +kernel
theorem dX12_strength_33 : decode cX12_strength 33 = .ok (.aload_n 0, 1) := by decide +kernel
theorem dX12_strength_34 : decode cX12_strength 34 = .ok (.iload_n 1, 1) := by decide +kernel
theorem dX12_strength_35 : decode cX12_strength 35 = .ok (.invokevirtual 258, 3) := by decide +kernel
theorem dX12_strength_38 : decode cX12_strength 38 = .ok (.istore_n 3, 1) := by decide +kernel
theorem dX12_strength_39 : decode cX12_strength 39 = .ok (.bipush (-2), 2) := by decide +kernel
theorem dX12_strength_41 : decode cX12_strength 41 = .ok (.istore 4, 2) := by decide +kernel
theorem dX12_strength_43 : decode cX12_strength 43 = .ok (.iconst 0, 1) := by decide +kernel
theorem dX12_strength_44 : decode cX12_strength 44 = .ok (.istore 5, 2) := by decide +kernel
theorem dX12_strength_46 : decode cX12_strength 46 = .ok (.iload 5, 2) := by decide +kernel
theorem dX12_strength_48 : decode cX12_strength 48 = .ok (.bipush 99, 2) := by decide +kernel
theorem dX12_strength_50 : decode cX12_strength 50 = .ok (.if_icmp .gt 68, 3) := by decide +kernel
theorem dX12_strength_53 : decode cX12_strength 53 = .ok (.iload 4, 2) := by decide +kernel
theorem dX12_strength_55 : decode cX12_strength 55 = .ok (.ifCond .ge 63, 3) := by decide +kernel
theorem dX12_strength_58 : decode cX12_strength 58 = .ok (.aload_n 0, 1) := by decide +kernel
theorem dX12_strength_59 : decode cX12_strength 59 = .ok (.invokevirtual 146, 3) := by decide +kernel
theorem dX12_strength_62 : decode cX12_strength 62 = .ok (.iconst 0, 1) := by decide +kernel
theorem dX12_strength_63 : decode cX12_strength 63 = .ok (.istore 6, 2) := by decide +kernel
theorem dX12_strength_65 : decode cX12_strength 65 = .ok (.iload 6, 2) := by decide +kernel
theorem dX12_strength_67 : decode cX12_strength 67 = .ok (.bipush 24, 2) := by decide +kernel
theorem dX12_strength_69 : decode cX12_strength 69 = .ok (.if_icmp .ge 17, 3) := by decide +kernel
theorem dX12_strength_72 : decode cX12_strength 72 = .ok (.aload_n 0, 1) := by decide +kernel
theorem dX12_strength_73 : decode cX12_strength 73 = .ok (.getfield 36, 3) := by decide +kernel
theorem dX12_strength_76 : decode cX12_strength 76 = .ok (.iload 6, 2) := by decide +kernel
theorem dX12_strength_78 : decode cX12_strength 78 = .ok (.iconst 0, 1) := by decide +kernel
theorem dX12_strength_79 : decode cX12_strength 79 = .ok (.iastore, 1) := by decide +kernel
theorem dX12_strength_80 : decode cX12_strength 80 = .ok (.iinc 6 1, 3) := by decide +kernel
theorem dX12_strength_83 : decode cX12_strength 83 = .ok (.goto (-18), 3) := by decide +kernel
theorem dX12_strength_86 : decode cX12_strength 86 = .ok (.aload_n 0, 1) := by decide +kernel
theorem dX12_strength_87 : decode cX12_strength 87 = .ok (.iload 5, 2) := by decide +kernel
theorem dX12_strength_89 : decode cX12_strength 89 = .ok (.putfield 39, 3) := by decide +kernel
theorem dX12_strength_92 : decode cX12_strength 92 = .ok (.aload_n 0, 1) := by decide +kernel
theorem dX12_strength_93 : decode cX12_strength 93 = .ok (.iload_n 1, 1) := by decide +kernel
theorem dX12_strength_94 : decode cX12_strength 94 = .ok (.iload_n 2, 1) := by decide +kernel
theorem dX12_strength_95 : decode cX12_strength 95 = .ok (.iload_n 3, 1) := by decide +kernel
theorem dX12_strength_96 : decode cX12_strength 96 = .ok (.invokevirtual 261, 3) := by decide +kernel
theorem dX12_strength_99 : decode cX12_strength 99 = .ok (.iload_n 3, 1) := by decide +kernel
theorem dX12_strength_100 : decode cX12_strength 100 = .ok (.if_icmp .ne 8, 3) := by decide +kernel
theorem dX12_strength_103 : decode cX12_strength 103 = .ok (.iload 5, 2) := by decide +kernel
theorem dX12_strength_105 : decode cX12_strength 105 = .ok (.goto 5, 3) := by decide +kernel
theorem dX12_strength_108 : decode cX12_strength 108 = .ok (.bipush (-2), 2) := by decide +kernel
theorem dX12_strength_110 : decode cX12_strength 110 = .ok (.istore 4, 2) := by decide +kernel
theorem dX12_strength_112 : decode cX12_strength 112 = .ok (.iinc 5 1, 3) := by decide +kernel
theorem dX12_strength_115 : decode cX12_strength 115 = .ok (.goto (-69), 3) := by decide +kernel
theorem dX12_strength_118 : decode cX12_strength 118 = .ok (.aload_n 0, 1) := by decide +kernel
theorem dX12_strength_119 : decode cX12_strength 119 = .ok (.iconst (-1), 1) := by decide +kernel
theorem dX12_strength_120 : decode cX12_strength 120 = .ok (.putfield 39, 3) := by decide +kernel
theorem dX12_strength_123 : decode cX12_strength 123 = .ok (.iload 4, 2) := by decide +kernel
theorem dX12_strength_125 : decode cX12_strength 125 = .ok (.ireturn, 1) := by decide +kernel
theorem dX12_loadOf_0 : decode cX12_loadOf 0 = .ok (.iload_n 3, 1) := by decide +kernel
theorem dX12_loadOf_1 : decode cX12_loadOf 1 = .ok (.iload 4, 2) := by decide +kernel
theorem dX12_loadOf_3 : decode cX12_loadOf 3 = .ok (.iadd, 1) := by decide +kernel
theorem dX12_loadOf_4 : decode cX12_loadOf 4 = .ok (.iconst 1, 1) := by decide +kernel
theorem dX12_loadOf_5 : decode cX12_loadOf 5 = .ok (.isub, 1) := by decide +kernel
theorem dX12_loadOf_6 : decode cX12_loadOf 6 = .ok (.iload 4, 2) := by decide +kernel
theorem dX12_loadOf_8 : decode cX12_loadOf 8 = .ok (.idiv, 1) := by decide +kernel
theorem dX12_loadOf_9 : decode cX12_loadOf 9 = .ok (.istore 5, 2) := by decide +kernel
theorem dX12_loadOf_11 : decode cX12_loadOf 11 = .ok (.iconst 0, 1) := by decide +kernel
theorem dX12_loadOf_12 : decode cX12_loadOf 12 = .ok (.istore 6, 2) := by decide +kernel
theorem dX12_loadOf_14 : decode cX12_loadOf 14 = .ok (.aload_n 0, 1) := by decide +kernel
theorem dX12_loadOf_15 : decode cX12_loadOf 15 = .ok (.invokevirtual 146, 3) := by decide +kernel
theorem dX12_loadOf_18 : decode cX12_loadOf 18 = .ok (.aload_n 0, 1) := by decide +kernel
theorem dX12_loadOf_19 : decode cX12_loadOf 19 = .ok (.iconst 1, 1) := by decide +kernel
theorem dX12_loadOf_20 : decode cX12_loadOf 20 = .ok (.putfield 296, 3) := by decide +kernel
theorem dX12_loadOf_23 : decode cX12_loadOf 23 = .ok (.iconst 0, 1) := by decide +kernel
theorem dX12_loadOf_24 : decode cX12_loadOf 24 = .ok (.istore 7, 2) := by decide +kernel
theorem dX12_loadOf_26 : decode cX12_loadOf 26 = .ok (.iload 7, 2) := by decide +kernel
theorem dX12_loadOf_28 : decode cX12_loadOf 28 = .ok (.iload 4, 2) := by decide +kernel
theorem dX12_loadOf_30 : decode cX12_loadOf 30 = .ok (.if_icmp .ge 78, 3) := by decide +kernel
theorem dX12_loadOf_33 : decode cX12_loadOf 33 = .ok (.aload_n 0, 1) := by decide +kernel
theorem dX12_loadOf_34 : decode cX12_loadOf 34 = .ok (.getfield 296, 3) := by decide +kernel
theorem dX12_loadOf_37 : decode cX12_loadOf 37 = .ok (.ifCond .eq 71, 3) := by decide +kernel
theorem dX12_loadOf_40 : decode cX12_loadOf 40 = .ok (.aload_n 0, 1) := by decide +kernel
theorem dX12_loadOf_41 : decode cX12_loadOf 41 = .ok (.iload 7, 2) := by decide +kernel
theorem dX12_loadOf_43 : decode cX12_loadOf 43 = .ok (.ifCond .eq 14, 3) := by decide +kernel
theorem dX12_loadOf_46 : decode cX12_loadOf 46 = .ok (.aload_n 0, 1) := by decide +kernel
theorem dX12_loadOf_47 : decode cX12_loadOf 47 = .ok (.iload_n 1, 1) := by decide +kernel
theorem dX12_loadOf_48 : decode cX12_loadOf 48 = .ok (.iload_n 2, 1) := by decide +kernel
theorem dX12_loadOf_49 : decode cX12_loadOf 49 = .ok (.iconst 0, 1) := by decide +kernel
theorem dX12_loadOf_50 : decode cX12_loadOf 50 = .ok (.iconst 1, 1) := by decide +kernel
theorem dX12_loadOf_51 : decode cX12_loadOf 51 = .ok (.invokevirtual 239, 3) := by decide +kernel
theorem dX12_loadOf_54 : decode cX12_loadOf 54 = .ok (.ifCond .eq 7, 3) := by decide +kernel
theorem dX12_loadOf_57 : decode cX12_loadOf 57 = .ok (.iconst 1, 1) := by decide +kernel
theorem dX12_loadOf_58 : decode cX12_loadOf 58 = .ok (.goto 4, 3) := by decide +kernel
theorem dX12_loadOf_61 : decode cX12_loadOf 61 = .ok (.iconst 0, 1) := by decide +kernel
theorem dX12_loadOf_62 : decode cX12_loadOf 62 = .ok (.putfield 296, 3) := by decide +kernel
theorem dX12_loadOf_65 : decode cX12_loadOf 65 = .ok (.aload_n 0, 1) := by decide +kernel
theorem dX12_loadOf_66 : decode cX12_loadOf 66 = .ok (.getfield 296, 3) := by decide +kernel
theorem dX12_loadOf_69 : decode cX12_loadOf 69 = .ok (.ifCond .eq 33, 3) := by decide +kernel
theorem dX12_loadOf_72 : decode cX12_loadOf 72 = .ok (.aload_n 0, 1) := by decide +kernel
theorem dX12_loadOf_73 : decode cX12_loadOf 73 = .ok (.aload_n 0, 1) := by decide +kernel
theorem dX12_loadOf_74 : decode cX12_loadOf 74 = .ok (.iload_n 1, 1) := by decide +kernel
theorem dX12_loadOf_75 : decode cX12_loadOf 75 = .ok (.iload_n 2, 1) := by decide +kernel
theorem dX12_loadOf_76 : decode cX12_loadOf 76 = .ok (.iload 5, 2) := by decide +kernel
theorem dX12_loadOf_78 : decode cX12_loadOf 78 = .ok (.iconst 0, 1) := by decide +kernel
theorem dX12_loadOf_79 : decode cX12_loadOf 79 = .ok (.invokevirtual 239, 3) := by decide +kernel
theorem dX12_loadOf_82 : decode cX12_loadOf 82 = .ok (.putfield 296, 3) := by decide +kernel
theorem dX12_loadOf_85 : decode cX12_loadOf 85 = .ok (.iload 6, 2) := by decide +kernel
theorem dX12_loadOf_87 : decode cX12_loadOf 87 = .ok (.aload_n 0, 1) := by decide +kernel
theorem dX12_loadOf_88 : decode cX12_loadOf 88 = .ok (.getfield 296, 3) := by decide +kernel
theorem dX12_loadOf_91 : decode cX12_loadOf 91 = .ok (.ifCond .eq 7, 3) := by decide +kernel
theorem dX12_loadOf_94 : decode cX12_loadOf 94 = .ok (.iconst 1, 1) := by decide +kernel
theorem dX12_loadOf_95 : decode cX12_loadOf 95 = .ok (.goto 4, 3) := by decide +kernel
theorem dX12_loadOf_98 : decode cX12_loadOf 98 = .ok (.iconst 0, 1) := by decide +kernel
theorem dX12_loadOf_99 : decode cX12_loadOf 99 = .ok (.iadd, 1) := by decide +kernel
theorem dX12_loadOf_100 : decode cX12_loadOf 100 = .ok (.istore 6, 2) := by decide +kernel
theorem dX12_loadOf_102 : decode cX12_loadOf 102 = .ok (.iinc 7 1, 3) := by decide +kernel
theorem dX12_loadOf_105 : decode cX12_loadOf 105 = .ok (.goto (-79), 3) := by decide +kernel
theorem dX12_loadOf_108 : decode cX12_loadOf 108 = .ok (.iload 6, 2) := by decide +kernel
theorem dX12_loadOf_110 : decode cX12_loadOf 110 = .ok (.ireturn, 1) := by decide +kernel
theorem dX12_load_0 : decode cX12_load 0 = .ok (.iload_n 1, 1) := by decide +kernel
theorem dX12_load_1 : decode cX12_load 1 = .ok (.ifCond .lt 50, 3) := by decide +kernel
theorem dX12_load_4 : decode cX12_load 4 = .ok (.aload_n 0, 1) := by decide +kernel
theorem dX12_load_5 : decode cX12_load 5 = .ok (.iload_n 1, 1) := by decide +kernel
theorem dX12_load_6 : decode cX12_load 6 = .ok (.bipush 10, 2) := by decide +kernel
theorem dX12_load_8 : decode cX12_load 8 = .ok (.idiv, 1) := by decide +kernel
theorem dX12_load_9 : decode cX12_load 9 = .ok (.i2l, 1) := by decide +kernel
theorem dX12_load_10 : decode cX12_load 10 = .ok (.invokevirtual 125, 3) := by decide +kernel
theorem dX12_load_13 : decode cX12_load 13 = .ok (.ifCond .eq 38, 3) := by decide +kernel
theorem dX12_load_16 : decode cX12_load 16 = .ok (.iload_n 1, 1) := by decide +kernel
theorem dX12_load_17 : decode cX12_load 17 = .ok (.bipush 10, 2) := by decide +kernel
theorem dX12_load_19 : decode cX12_load 19 = .ok (.irem, 1) := by decide +kernel
theorem dX12_load_20 : decode cX12_load 20 = .ok (.i2l, 1) := by decide +kernel
theorem dX12_load_21 : decode cX12_load 21 = .ok (.invokestatic 255, 3) := by decide +kernel
theorem dX12_load_24 : decode cX12_load 24 = .ok (.ifCond .eq 27, 3) := by decide +kernel
theorem dX12_load_27 : decode cX12_load 27 = .ok (.iload_n 2, 1) := by decide +kernel
theorem dX12_load_28 : decode cX12_load 28 = .ok (.i2l, 1) := by decide +kernel
theorem dX12_load_29 : decode cX12_load 29 = .ok (.lconst 1, 1) := by decide +kernel
theorem dX12_load_30 : decode cX12_load 30 = .ok (.ldc2_w 299, 3) := by decide +kernel
theorem dX12_load_33 : decode cX12_load 33 = .ok (.invokestatic 96, 3) := by decide +kernel
theorem dX12_load_36 : decode cX12_load 36 = .ok (.ifCond .eq 15, 3) := by decide +kernel
theorem dX12_load_39 : decode cX12_load 39 = .ok (.iload_n 3, 1) := by decide +kernel
theorem dX12_load_40 : decode cX12_load 40 = .ok (.i2l, 1) := by decide +kernel
theorem dX12_load_41 : decode cX12_load 41 = .ok (.lconst 0, 1) := by decide +kernel
theorem dX12_load_42 : decode cX12_load 42 = .ok (.ldc2_w 116, 3) := by decide +kernel
theorem dX12_load_45 : decode cX12_load 45 = .ok (.invokestatic 96, 3) := by decide +kernel
theorem dX12_load_48 : decode cX12_load 48 = .ok (.ifCond .ne 5, 3) := by decide +kernel
theorem dX12_load_51 : decode cX12_load 51 = .ok (.iconst (-1), 1) := by decide +kernel
theorem dX12_load_52 : decode cX12_load 52 = .ok (.ireturn, 1) := by decide +kernel
theorem dX12_load_53 : decode cX12_load 53 = .ok (.iload_n 3, 1) := by decide +kernel
theorem dX12_load_54 : decode cX12_load 54 = .ok (.ifCond .le 18, 3) := by decide +kernel
theorem dX12_load_57 : decode cX12_load 57 = .ok (.aload_n 0, 1) := by decide +kernel
theorem dX12_load_58 : decode cX12_load 58 = .ok (.iload_n 1, 1) := by decide +kernel
theorem dX12_load_59 : decode cX12_load 59 = .ok (.bipush 10, 2) := by decide +kernel
theorem dX12_load_61 : decode cX12_load 61 = .ok (.idiv, 1) := by decide +kernel
theorem dX12_load_62 : decode cX12_load 62 = .ok (.iload_n 1, 1) := by decide +kernel
theorem dX12_load_63 : decode cX12_load 63 = .ok (.bipush 10, 2) := by decide +kernel
theorem dX12_load_65 : decode cX12_load 65 = .ok (.irem, 1) := by decide +kernel
theorem dX12_load_66 : decode cX12_load 66 = .ok (.iload_n 2, 1) := by decide +kernel
theorem dX12_load_67 : decode cX12_load 67 = .ok (.iload_n 3, 1) := by decide +kernel
theorem dX12_load_68 : decode cX12_load 68 = .ok (.invokevirtual 301, 3) := by decide +kernel
theorem dX12_load_71 : decode cX12_load 71 = .ok (.ireturn, 1) := by decide +kernel
theorem dX12_load_72 : decode cX12_load 72 = .ok (.iconst 1, 1) := by decide +kernel
theorem dX12_load_73 : decode cX12_load 73 = .ok (.istore 4, 2) := by decide +kernel
theorem dX12_load_75 : decode cX12_load 75 = .ok (.iload 4, 2) := by decide +kernel
theorem dX12_load_77 : decode cX12_load 77 = .ok (.bipush 9, 2) := by decide +kernel
theorem dX12_load_79 : decode cX12_load 79 = .ok (.if_icmp .gt 35, 3) := by decide +kernel
theorem dX12_load_82 : decode cX12_load 82 = .ok (.aload_n 0, 1) := by decide +kernel
theorem dX12_load_83 : decode cX12_load 83 = .ok (.iload_n 1, 1) := by decide +kernel
theorem dX12_load_84 : decode cX12_load 84 = .ok (.bipush 10, 2) := by decide +kernel
theorem dX12_load_86 : decode cX12_load 86 = .ok (.idiv, 1) := by decide +kernel
theorem dX12_load_87 : decode cX12_load 87 = .ok (.iload_n 1, 1) := by decide +kernel
theorem dX12_load_88 : decode cX12_load 88 = .ok (.bipush 10, 2) := by decide +kernel
theorem dX12_load_90 : decode cX12_load 90 = .ok (.irem, 1) := by decide +kernel
theorem dX12_load_91 : decode cX12_load 91 = .ok (.iload_n 2, 1) := by decide +kernel
theorem dX12_load_92 : decode cX12_load 92 = .ok (.iload 4, 2) := by decide +kernel
theorem dX12_load_94 : decode cX12_load 94 = .ok (.invokevirtual 301, 3) := by decide +kernel
theorem dX12_load_97 : decode cX12_load 97 = .ok (.pop, 1) := by decide +kernel
theorem dX12_load_98 : decode cX12_load 98 = .ok (.aload_n 0, 1) := by decide +kernel
theorem dX12_load_99 : decode cX12_load 99 = .ok (.getfield 296, 3) := by decide +kernel
theorem dX12_load_102 : decode cX12_load 102 = .ok (.ifCond .eq 6, 3) := by decide +kernel
theorem dX12_load_105 : decode cX12_load 105 = .ok (.iload 4, 2) := by decide +kernel
theorem dX12_load_107 : decode cX12_load 107 = .ok (.ireturn, 1) := by decide +kernel
theorem dX12_load_108 : decode cX12_load 108 = .ok (.iinc 4 1, 3) := by decide +kernel
theorem dX12_load_111 : decode cX12_load 111 = .ok (.goto (-36), 3) := by decide +kernel
theorem dX12_load_114 : decode cX12_load 114 = .ok (.bipush (-2), 2) := by decide +kernel
theorem dX12_load_116 : decode cX12_load 116 = .ok (.ireturn, 1) := by decide +kernel
theorem dX12_several_0 : decode cX12_several 0 = .ok (.iload_n 1, 1) := by decide +kernel
theorem dX12_several_1 : decode cX12_several 1 = .ok (.iconst (-1), 1) := by decide +kernel
theorem dX12_several_2 : decode cX12_several 2 = .ok (.if_icmp .eq 14, 3) := by decide +kernel
theorem dX12_several_5 : decode cX12_several 5 = .ok (.aload_n 0, 1) := by decide +kernel
theorem dX12_several_6 : decode cX12_several 6 = .ok (.iload_n 1, 1) := by decide +kernel
theorem dX12_several_7 : decode cX12_several 7 = .ok (.i2l, 1) := by decide +kernel
theorem dX12_several_8 : decode cX12_several 8 = .ok (.invokevirtual 125, 3) := by decide +kernel
theorem dX12_several_11 : decode cX12_several 11 = .ok (.ifCond .ne 5, 3) := by decide +kernel
theorem dX12_several_14 : decode cX12_several 14 = .ok (.iconst (-1), 1) := by decide +kernel
theorem dX12_several_15 : decode cX12_several 15 = .ok (.ireturn, 1) := by decide +kernel
theorem dX12_several_16 : decode cX12_several 16 = .ok (.iconst 1, 1) := by decide +kernel
theorem dX12_several_17 : decode cX12_several 17 = .ok (.istore_n 2, 1) := by decide +kernel
theorem dX12_several_18 : decode cX12_several 18 = .ok (.iconst 0, 1) := by decide +kernel
theorem dX12_several_19 : decode cX12_several 19 = .ok (.istore_n 3, 1) := by decide +kernel
theorem dX12_several_20 : decode cX12_several 20 = .ok (.iload_n 3, 1) := by decide +kernel
theorem dX12_several_21 : decode cX12_several 21 = .ok (.aload_n 0, 1) := by decide +kernel
theorem dX12_several_22 : decode cX12_several 22 = .ok (.getfield 93, 3) := by decide +kernel
theorem dX12_several_25 : decode cX12_several 25 = .ok (.if_icmp .ge 13, 3) := by decide +kernel
theorem dX12_several_28 : decode cX12_several 28 = .ok (.iload_n 2, 1) := by decide +kernel
theorem dX12_several_29 : decode cX12_several 29 = .ok (.iconst 3, 1) := by decide +kernel
theorem dX12_several_30 : decode cX12_several 30 = .ok (.imul, 1) := by decide +kernel
theorem dX12_several_31 : decode cX12_several 31 = .ok (.istore_n 2, 1) := by decide +kernel
theorem dX12_several_32 : decode cX12_several 32 = .ok (.iinc 3 1, 3) := by decide +kernel
theorem dX12_several_35 : decode cX12_several 35 = .ok (.goto (-15), 3) := by decide +kernel
theorem dX12_several_38 : decode cX12_several 38 = .ok (.iconst 0, 1) := by decide +kernel
theorem dX12_several_39 : decode cX12_several 39 = .ok (.istore_n 3, 1) := by decide +kernel
theorem dX12_several_40 : decode cX12_several 40 = .ok (.iconst (-1), 1) := by decide +kernel
theorem dX12_several_41 : decode cX12_several 41 = .ok (.istore 4, 2) := by decide +kernel
theorem dX12_several_43 : decode cX12_several 43 = .ok (.iconst 0, 1) := by decide +kernel
theorem dX12_several_44 : decode cX12_several 44 = .ok (.istore 5, 2) := by decide +kernel
theorem dX12_several_46 : decode cX12_several 46 = .ok (.iload 5, 2) := by decide +kernel
theorem dX12_several_48 : decode cX12_several 48 = .ok (.iload_n 2, 1) := by decide +kernel
theorem dX12_several_49 : decode cX12_several 49 = .ok (.if_icmp .ge 99, 3) := by decide +kernel
theorem dX12_several_52 : decode cX12_several 52 = .ok (.aload_n 0, 1) := by decide +kernel
theorem dX12_several_53 : decode cX12_several 53 = .ok (.invokevirtual 146, 3) := by decide +kernel
theorem dX12_several_56 : decode cX12_several 56 = .ok (.iconst 0, 1) := by decide +kernel
theorem dX12_several_57 : decode cX12_several 57 = .ok (.istore 6, 2) := by decide +kernel
theorem dX12_several_59 : decode cX12_several 59 = .ok (.iload_n 2, 1) := by decide +kernel
theorem dX12_several_60 : decode cX12_several 60 = .ok (.istore 7, 2) := by decide +kernel
theorem dX12_several_62 : decode cX12_several 62 = .ok (.iconst 0, 1) := by decide +kernel
theorem dX12_several_63 : decode cX12_several 63 = .ok (.istore 8, 2) := by decide +kernel
theorem dX12_several_65 : decode cX12_several 65 = .ok (.iload 8, 2) := by decide +kernel
theorem dX12_several_67 : decode cX12_several 67 = .ok (.aload_n 0, 1) := by decide +kernel
theorem dX12_several_68 : decode cX12_several 68 = .ok (.getfield 93, 3) := by decide +kernel
theorem dX12_several_71 : decode cX12_several 71 = .ok (.if_icmp .ge 41, 3) := by decide +kernel
theorem dX12_several_74 : decode cX12_several 74 = .ok (.iload 7, 2) := by decide +kernel
theorem dX12_several_76 : decode cX12_several 76 = .ok (.iconst 3, 1) := by decide +kernel
theorem dX12_several_77 : decode cX12_several 77 = .ok (.idiv, 1) := by decide +kernel
theorem dX12_several_78 : decode cX12_several 78 = .ok (.istore 7, 2) := by decide +kernel
theorem dX12_several_80 : decode cX12_several 80 = .ok (.iload 6, 2) := by decide +kernel
theorem dX12_several_82 : decode cX12_several 82 = .ok (.aload_n 0, 1) := by decide +kernel
theorem dX12_several_83 : decode cX12_several 83 = .ok (.iload 8, 2) := by decide +kernel
theorem dX12_several_85 : decode cX12_several 85 = .ok (.iload 5, 2) := by decide +kernel
theorem dX12_several_87 : decode cX12_several 87 = .ok (.iload 7, 2) := by decide +kernel
theorem dX12_several_89 : decode cX12_several 89 = .ok (.idiv, 1) := by decide +kernel
theorem dX12_several_90 : decode cX12_several 90 = .ok (.iconst 3, 1) := by decide +kernel
theorem dX12_several_91 : decode cX12_several 91 = .ok (.irem, 1) := by decide +kernel
theorem dX12_several_92 : decode cX12_several 92 = .ok (.invokevirtual 249, 3) := by decide +kernel
theorem dX12_several_95 : decode cX12_several 95 = .ok (.ifCond .eq 7, 3) := by decide +kernel
theorem dX12_several_98 : decode cX12_several 98 = .ok (.iconst 1, 1) := by decide +kernel
theorem dX12_several_99 : decode cX12_several 99 = .ok (.goto 4, 3) := by decide +kernel
theorem dX12_several_102 : decode cX12_several 102 = .ok (.iconst 0, 1) := by decide +kernel
theorem dX12_several_103 : decode cX12_several 103 = .ok (.iadd, 1) := by decide +kernel
theorem dX12_several_104 : decode cX12_several 104 = .ok (.istore 6, 2) := by decide +kernel
theorem dX12_several_106 : decode cX12_several 106 = .ok (.iinc 8 1, 3) := by decide +kernel
theorem dX12_several_109 : decode cX12_several 109 = .ok (.goto (-44), 3) := by decide +kernel
theorem dX12_several_112 : decode cX12_several 112 = .ok (.iload 6, 2) := by decide +kernel
theorem dX12_several_114 : decode cX12_several 114 = .ok (.iload 4, 2) := by decide +kernel
theorem dX12_several_116 : decode cX12_several 116 = .ok (.if_icmp .le 8, 3) := by decide +kernel
theorem dX12_several_119 : decode cX12_several 119 = .ok (.iload 5, 2) := by decide +kernel
theorem dX12_several_121 : decode cX12_several 121 = .ok (.goto 4, 3) := by decide +kernel
theorem dX12_several_124 : decode cX12_several 124 = .ok (.iload_n 3, 1) := by decide +kernel
theorem dX12_several_125 : decode cX12_several 125 = .ok (.istore_n 3, 1) := by decide +kernel
theorem dX12_several_126 : decode cX12_several 126 = .ok (.iload 6, 2) := by decide +kernel
theorem dX12_several_128 : decode cX12_several 128 = .ok (.iload 4, 2) := by decide +kernel
theorem dX12_several_130 : decode cX12_several 130 = .ok (.if_icmp .le 8, 3) := by decide +kernel
theorem dX12_several_133 : decode cX12_several 133 = .ok (.iload 6, 2) := by decide +kernel
theorem dX12_several_135 : decode cX12_several 135 = .ok (.goto 5, 3) := by decide +kernel
theorem dX12_several_138 : decode cX12_several 138 = .ok (.iload 4, 2) := by decide +kernel
theorem dX12_several_140 : decode cX12_several 140 = .ok (.istore 4, 2) := by decide +kernel
theorem dX12_several_142 : decode cX12_several 142 = .ok (.iinc 5 1, 3) := by decide +kernel
theorem dX12_several_145 : decode cX12_several 145 = .ok (.goto (-99), 3) := by decide +kernel
theorem dX12_several_148 : decode cX12_several 148 = .ok (.iload_n 1, 1) := by decide +kernel
theorem dX12_several_149 : decode cX12_several 149 = .ok (.ifCond .ge 6, 3) := by decide +kernel
theorem dX12_several_152 : decode cX12_several 152 = .ok (.iload 4, 2) := by decide +kernel
theorem dX12_several_154 : decode cX12_several 154 = .ok (.ireturn, 1) := by decide +kernel
theorem dX12_several_155 : decode cX12_several 155 = .ok (.aload_n 0, 1) := by decide +kernel
theorem dX12_several_156 : decode cX12_several 156 = .ok (.getfield 93, 3) := by decide +kernel
theorem dX12_several_159 : decode cX12_several 159 = .ok (.iconst 1, 1) := by decide +kernel
theorem dX12_several_160 : decode cX12_several 160 = .ok (.isub, 1) := by decide +kernel
theorem dX12_several_161 : decode cX12_several 161 = .ok (.istore 5, 2) := by decide +kernel
theorem dX12_several_163 : decode cX12_several 163 = .ok (.iload 5, 2) := by decide +kernel
theorem dX12_several_165 : decode cX12_several 165 = .ok (.iload_n 1, 1) := by decide +kernel
theorem dX12_several_166 : decode cX12_several 166 = .ok (.if_icmp .le 13, 3) := by decide +kernel
theorem dX12_several_169 : decode cX12_several 169 = .ok (.iload_n 3, 1) := by decide +kernel
theorem dX12_several_170 : decode cX12_several 170 = .ok (.iconst 3, 1) := by decide +kernel
theorem dX12_several_171 : decode cX12_several 171 = .ok (.idiv, 1) := by decide +kernel
theorem dX12_several_172 : decode cX12_several 172 = .ok (.istore_n 3, 1) := by decide +kernel
theorem dX12_several_173 : decode cX12_several 173 = .ok (.iinc 5 (-1), 3) := by decide +kernel
theorem dX12_several_176 : decode cX12_several 176 = .ok (.goto (-13), 3) := by decide +kernel
theorem dX12_several_179 : decode cX12_several 179 = .ok (.iload_n 3, 1) := by decide +kernel
theorem dX12_several_180 : decode cX12_several 180 = .ok (.iconst 3, 1) := by decide +kernel
theorem dX12_several_181 : decode cX12_several 181 = .ok (.irem, 1) := by decide +kernel
theorem dX12_several_182 : decode cX12_several 182 = .ok (.ireturn, 1) := by decide +kernel
theorem dX12_waysOf_0 : decode cX12_waysOf 0 = .ok (.lconst 1, 1) := by decide +kernel
theorem dX12_waysOf_1 : decode cX12_waysOf 1 = .ok (.lstore 4, 2) := by decide +kernel
theorem dX12_waysOf_3 : decode cX12_waysOf 3 = .ok (.iconst 0, 1) := by decide +kernel
theorem dX12_waysOf_4 : decode cX12_waysOf 4 = .ok (.istore 6, 2) := by decide +kernel
theorem dX12_waysOf_6 : decode cX12_waysOf 6 = .ok (.iload 6, 2) := by decide +kernel
theorem dX12_waysOf_8 : decode cX12_waysOf 8 = .ok (.bipush 8, 2) := by decide +kernel
theorem dX12_waysOf_10 : decode cX12_waysOf 10 = .ok (.if_icmp .ge 62, 3) := by decide +kernel
theorem dX12_waysOf_13 : decode cX12_waysOf 13 = .ok (.iload 6, 2) := by decide +kernel
theorem dX12_waysOf_15 : decode cX12_waysOf 15 = .ok (.iload_n 3, 1) := by decide +kernel
theorem dX12_waysOf_16 : decode cX12_waysOf 16 = .ok (.if_icmp .ne 7, 3) := by decide +kernel
theorem dX12_waysOf_19 : decode cX12_waysOf 19 = .ok (.iconst 0, 1) := by decide +kernel
theorem dX12_waysOf_20 : decode cX12_waysOf 20 = .ok (.goto 18, 3) := by decide +kernel
theorem dX12_waysOf_23 : decode cX12_waysOf 23 = .ok (.aload_n 0, 1) := by decide +kernel
theorem dX12_waysOf_24 : decode cX12_waysOf 24 = .ok (.getfield 11, 3) := by decide +kernel
theorem dX12_waysOf_27 : decode cX12_waysOf 27 = .ok (.bipush 48, 2) := by decide +kernel
theorem dX12_waysOf_29 : decode cX12_waysOf 29 = .ok (.bipush 8, 2) := by decide +kernel
theorem dX12_waysOf_31 : decode cX12_waysOf 31 = .ok (.iload_n 1, 1) := by decide +kernel
theorem dX12_waysOf_32 : decode cX12_waysOf 32 = .ok (.imul, 1) := by decide +kernel
theorem dX12_waysOf_33 : decode cX12_waysOf 33 = .ok (.iadd, 1) := by decide +kernel
theorem dX12_waysOf_34 : decode cX12_waysOf 34 = .ok (.iload 6, 2) := by decide +kernel
theorem dX12_waysOf_36 : decode cX12_waysOf 36 = .ok (.iadd, 1) := by decide +kernel
theorem dX12_waysOf_37 : decode cX12_waysOf 37 = .ok (.iaload, 1) := by decide +kernel
theorem dX12_waysOf_38 : decode cX12_waysOf 38 = .ok (.istore 7, 2) := by decide +kernel
theorem dX12_waysOf_40 : decode cX12_waysOf 40 = .ok (.lload 4, 2) := by decide +kernel
theorem dX12_waysOf_42 : decode cX12_waysOf 42 = .ok (.iload_n 2, 1) := by decide +kernel
theorem dX12_waysOf_43 : decode cX12_waysOf 43 = .ok (.iload 6, 2) := by decide +kernel
theorem dX12_waysOf_45 : decode cX12_waysOf 45 = .ok (.invokestatic 219, 3) := by decide +kernel
theorem dX12_waysOf_48 : decode cX12_waysOf 48 = .ok (.ifCond .eq 9, 3) := by decide +kernel
theorem dX12_waysOf_51 : decode cX12_waysOf 51 = .ok (.iload 7, 2) := by decide +kernel
theorem dX12_waysOf_53 : decode cX12_waysOf 53 = .ok (.i2l, 1) := by decide +kernel
theorem dX12_waysOf_54 : decode cX12_waysOf 54 = .ok (.goto 9, 3) := by decide +kernel
theorem dX12_waysOf_57 : decode cX12_waysOf 57 = .ok (.bipush 12, 2) := by decide +kernel
theorem dX12_waysOf_59 : decode cX12_waysOf 59 = .ok (.iload 7, 2) := by decide +kernel
theorem dX12_waysOf_61 : decode cX12_waysOf 61 = .ok (.isub, 1) := by decide +kernel
theorem dX12_waysOf_62 : decode cX12_waysOf 62 = .ok (.i2l, 1) := by decide +kernel
theorem dX12_waysOf_63 : decode cX12_waysOf 63 = .ok (.lmul, 1) := by decide +kernel
theorem dX12_waysOf_64 : decode cX12_waysOf 64 = .ok (.lstore 4, 2) := by decide +kernel
theorem dX12_waysOf_66 : decode cX12_waysOf 66 = .ok (.iinc 6 1, 3) := by decide +kernel
theorem dX12_waysOf_69 : decode cX12_waysOf 69 = .ok (.goto (-63), 3) := by decide +kernel
theorem dX12_waysOf_72 : decode cX12_waysOf 72 = .ok (.lload 4, 2) := by decide +kernel
theorem dX12_waysOf_74 : decode cX12_waysOf 74 = .ok (.lreturn, 1) := by decide +kernel

theorem dX11_soonest_0 : decode cX11_soonest 0 = .ok (.iload_n 1, 1) := by decide +kernel
theorem dX11_soonest_1 : decode cX11_soonest 1 = .ok (.invokestatic 160, 3) := by decide +kernel
theorem dX11_soonest_4 : decode cX11_soonest 4 = .ok (.ifCond .eq 8, 3) := by decide +kernel
theorem dX11_soonest_7 : decode cX11_soonest 7 = .ok (.iload_n 2, 1) := by decide +kernel
theorem dX11_soonest_8 : decode cX11_soonest 8 = .ok (.iconst (-1), 1) := by decide +kernel
theorem dX11_soonest_9 : decode cX11_soonest 9 = .ok (.if_icmp .ge 5, 3) := by decide +kernel
theorem dX11_soonest_12 : decode cX11_soonest 12 = .ok (.iconst (-1), 1) := by decide +kernel
theorem dX11_soonest_13 : decode cX11_soonest 13 = .ok (.ireturn, 1) := by decide +kernel
theorem dX11_soonest_14 : decode cX11_soonest 14 = .ok (.aload_n 0, 1) := by decide +kernel
theorem dX11_soonest_15 : decode cX11_soonest 15 = .ok (.getfield 10, 3) := by decide +kernel
theorem dX11_soonest_18 : decode cX11_soonest 18 = .ok (.getfield 87, 3) := by decide +kernel
theorem dX11_soonest_21 : decode cX11_soonest 21 = .ok (.iconst 5, 1) := by decide +kernel
theorem dX11_soonest_22 : decode cX11_soonest 22 = .ok (.if_icmp .le 6, 3) := by decide +kernel
theorem dX11_soonest_25 : decode cX11_soonest 25 = .ok (.bipush (-5), 2) := by decide +kernel
theorem dX11_soonest_27 : decode cX11_soonest 27 = .ok (.ireturn, 1) := by decide +kernel
theorem dX11_soonest_28 : decode cX11_soonest 28 = .ok (.iload_n 2, 1) := by decide +kernel
theorem dX11_soonest_29 : decode cX11_soonest 29 = .ok (.aload_n 0, 1) := by decide +kernel
theorem dX11_soonest_30 : decode cX11_soonest 30 = .ok (.getfield 10, 3) := by decide +kernel
theorem dX11_soonest_33 : decode cX11_soonest 33 = .ok (.getfield 87, 3) := by decide +kernel
theorem dX11_soonest_36 : decode cX11_soonest 36 = .ok (.if_icmp .lt 6, 3) := by decide +kernel
theorem dX11_soonest_39 : decode cX11_soonest 39 = .ok (.bipush (-2), 2) := by decide +kernel
theorem dX11_soonest_41 : decode cX11_soonest 41 = .ok (.ireturn, 1) := by decide +kernel
theorem dX11_soonest_42 : decode cX11_soonest 42 = .ok (.aload_n 0, 1) := by decide +kernel
theorem dX11_soonest_43 : decode cX11_soonest 43 = .ok (.getfield 58, 3) := by decide +kernel
theorem dX11_soonest_46 : decode cX11_soonest 46 = .ok (.aload_n 0, 1) := by decide +kernel
theorem dX11_soonest_47 : decode cX11_soonest 47 = .ok (.getfield 42, 3) := by decide +kernel
theorem dX11_soonest_50 : decode cX11_soonest 50 = .ok (.getfield 126, 3) := by decide +kernel
theorem dX11_soonest_53 : decode cX11_soonest 53 = .ok (.iload_n 1, 1) := by decide +kernel
theorem dX11_soonest_54 : decode cX11_soonest 54 = .ok (.invokevirtual 208, 3) := by decide +kernel
theorem dX11_soonest_57 : decode cX11_soonest 57 = .ok (.istore_n 3, 1) := by decide +kernel
theorem dX11_soonest_58 : decode cX11_soonest 58 = .ok (.iload_n 3, 1) := by decide +kernel
theorem dX11_soonest_59 : decode cX11_soonest 59 = .ok (.bipush (-2), 2) := by decide +kernel
theorem dX11_soonest_61 : decode cX11_soonest 61 = .ok (.if_icmp .eq 7, 3) := by decide +kernel
theorem dX11_soonest_64 : decode cX11_soonest 64 = .ok (.iload_n 2, 1) := by decide +kernel
theorem dX11_soonest_65 : decode cX11_soonest 65 = .ok (.ifCond .ge 7, 3) := by decide +kernel
theorem dX11_soonest_68 : decode cX11_soonest 68 = .ok (.iload_n 3, 1) := by decide +kernel
theorem dX11_soonest_69 : decode cX11_soonest 69 = .ok (.goto 11, 3) := by decide +kernel
theorem dX11_soonest_72 : decode cX11_soonest 72 = .ok (.aload_n 0, 1) := by decide +kernel
theorem dX11_soonest_73 : decode cX11_soonest 73 = .ok (.getfield 58, 3) := by decide +kernel
theorem dX11_soonest_76 : decode cX11_soonest 76 = .ok (.iload_n 2, 1) := by decide +kernel
theorem dX11_soonest_77 : decode cX11_soonest 77 = .ok (.invokevirtual 181, 3) := by decide +kernel
theorem dX11_soonest_80 : decode cX11_soonest 80 = .ok (.ireturn, 1) := by decide +kernel
theorem dX11_strength_0 : decode cX11_strength 0 = .ok (.iload_n 1, 1) := by decide +kernel
theorem dX11_strength_1 : decode cX11_strength 1 = .ok (.invokestatic 95, 3) := by decide +kernel
theorem dX11_strength_4 : decode cX11_strength 4 = .ok (.ifCond .eq 10, 3) := by decide +kernel
theorem dX11_strength_7 : decode cX11_strength 7 = .ok (.iload_n 2, 1) := by decide +kernel
theorem dX11_strength_8 : decode cX11_strength 8 = .ok (.invokestatic 160, 3) := by decide +kernel
theorem dX11_strength_11 : decode cX11_strength 11 = .ok (.ifCond .ne 5, 3) := by decide +kernel
theorem dX11_strength_14 : decode cX11_strength 14 = .ok (.iconst (-1), 1) := by decide +kernel
theorem dX11_strength_15 : decode cX11_strength 15 = .ok (.ireturn, 1) := by decide +kernel
theorem dX11_strength_16 : decode cX11_strength 16 = .ok (.aload_n 0, 1) := by decide +kernel
theorem dX11_strength_17 : decode cX11_strength 17 = .ok (.getfield 72, 3) := by decide +kernel
theorem dX11_strength_20 : decode cX11_strength 20 = .ok (.iload_n 1, 1) := by decide +kernel
theorem dX11_strength_21 : decode cX11_strength 21 = .ok (.invokevirtual 163, 3) := by decide +kernel
theorem dX11_strength_24 : decode cX11_strength 24 = .ok (.istore_n 3, 1) := by decide +kernel
theorem dX11_strength_25 : decode cX11_strength 25 = .ok (.iload_n 3, 1) := by decide +kernel
theorem dX11_strength_26 : decode cX11_strength 26 = .ok (.ifCond .eq 5, 3) := by decide +kernel
theorem dX11_strength_29 : decode cX11_strength 29 = .ok (.iload_n 3, 1) := by decide +kernel
theorem dX11_strength_30 : decode cX11_strength 30 = .ok (.ireturn, 1) := by decide +kernel
theorem dX11_strength_31 : decode cX11_strength 31 = .ok (.aload_n 0, 1) := by decide +kernel
theorem dX11_strength_32 : decode cX11_strength 32 = .ok (.getfield 51, 3) := by decide +kernel
theorem dX11_strength_35 : decode cX11_strength 35 = .ok (.aload_n 0, 1) := by decide +kernel
theorem dX11_strength_36 : decode cX11_strength 36 = .ok (.getfield 72, 3) := by decide +kernel
theorem dX11_strength_39 : decode cX11_strength 39 = .ok (.iload_n 1, 1) := by decide +kernel
theorem dX11_strength_40 : decode cX11_strength 40 = .ok (.bipush 10, 2) := by decide +kernel
theorem dX11_strength_42 : decode cX11_strength 42 = .ok (.invokevirtual 187, 3) := by decide +kernel
theorem dX11_strength_45 : decode cX11_strength 45 = .ok (.iconst 0, 1) := by decide +kernel
theorem dX11_strength_46 : decode cX11_strength 46 = .ok (.istore 4, 2) := by decide +kernel
theorem dX11_strength_48 : decode cX11_strength 48 = .ok (.iload 4, 2) := by decide +kernel
theorem dX11_strength_50 : decode cX11_strength 50 = .ok (.bipush 99, 2) := by decide +kernel
theorem dX11_strength_52 : decode cX11_strength 52 = .ok (.if_icmp .gt 82, 3) := by decide +kernel
theorem dX11_strength_55 : decode cX11_strength 55 = .ok (.aload_n 0, 1) := by decide +kernel
theorem dX11_strength_56 : decode cX11_strength 56 = .ok (.getfield 35, 3) := by decide +kernel
theorem dX11_strength_59 : decode cX11_strength 59 = .ok (.aload_n 0, 1) := by decide +kernel
theorem dX11_strength_60 : decode cX11_strength 60 = .ok (.getfield 51, 3) := by decide +kernel
theorem dX11_strength_63 : decode cX11_strength 63 = .ok (.getfield 176, 3) := by decide +kernel
theorem dX11_strength_66 : decode cX11_strength 66 = .ok (.aload_n 0, 1) := by decide +kernel
theorem dX11_strength_67 : decode cX11_strength 67 = .ok (.getfield 42, 3) := by decide +kernel
theorem dX11_strength_70 : decode cX11_strength 70 = .ok (.getfield 126, 3) := by decide +kernel
theorem dX11_strength_73 : decode cX11_strength 73 = .ok (.invokevirtual 194, 3) := by decide +kernel
theorem dX11_strength_76 : decode cX11_strength 76 = .ok (.aload_n 0, 1) := by decide +kernel
theorem dX11_strength_77 : decode cX11_strength 77 = .ok (.getfield 51, 3) := by decide +kernel
theorem dX11_strength_80 : decode cX11_strength 80 = .ok (.getfield 176, 3) := by decide +kernel
theorem dX11_strength_83 : decode cX11_strength 83 = .ok (.iload_n 2, 1) := by decide +kernel
theorem dX11_strength_84 : decode cX11_strength 84 = .ok (.invokevirtual 211, 3) := by decide +kernel
theorem dX11_strength_87 : decode cX11_strength 87 = .ok (.aload_n 0, 1) := by decide +kernel
theorem dX11_strength_88 : decode cX11_strength 88 = .ok (.getfield 51, 3) := by decide +kernel
theorem dX11_strength_91 : decode cX11_strength 91 = .ok (.getfield 176, 3) := by decide +kernel
theorem dX11_strength_94 : decode cX11_strength 94 = .ok (.iload_n 2, 1) := by decide +kernel
theorem dX11_strength_95 : decode cX11_strength 95 = .ok (.iload 4, 2) := by decide +kernel
theorem dX11_strength_97 : decode cX11_strength 97 = .ok (.invokevirtual 214, 3) := by decide +kernel
theorem dX11_strength_100 : decode cX11_strength 100 = .ok (.aload_n 0, 1) := by decide +kernel
theorem dX11_strength_101 : decode cX11_strength 101 = .ok (.getfield 51, 3) := by decide +kernel
theorem dX11_strength_104 : decode cX11_strength 104 = .ok (.iload_n 2, 1) := by decide +kernel
theorem dX11_strength_105 : decode cX11_strength 105 = .ok (.invokevirtual 217, 3) := by decide +kernel
theorem dX11_strength_108 : decode cX11_strength 108 = .ok (.aload_n 0, 1) := by decide +kernel
theorem dX11_strength_109 : decode cX11_strength 109 = .ok (.getfield 51, 3) := by decide +kernel
theorem dX11_strength_112 : decode cX11_strength 112 = .ok (.getfield 170, 3) := by decide +kernel
theorem dX11_strength_115 : decode cX11_strength 115 = .ok (.aload_n 0, 1) := by decide +kernel
theorem dX11_strength_116 : decode cX11_strength 116 = .ok (.getfield 51, 3) := by decide +kernel
theorem dX11_strength_119 : decode cX11_strength 119 = .ok (.getfield 191, 3) := by decide +kernel
theorem dX11_strength_122 : decode cX11_strength 122 = .ok (.if_icmp .ne 6, 3) := by decide +kernel
theorem dX11_strength_125 : decode cX11_strength 125 = .ok (.iload 4, 2) := by decide +kernel
theorem dX11_strength_127 : decode cX11_strength 127 = .ok (.ireturn, 1) := by decide +kernel
theorem dX11_strength_128 : decode cX11_strength 128 = .ok (.iinc 4 1, 3) := by decide +kernel
theorem dX11_strength_131 : decode cX11_strength 131 = .ok (.goto (-83), 3) := by decide +kernel
theorem dX11_strength_134 : decode cX11_strength 134 = .ok (.bipush (-2), 2) := by decide +kernel
theorem dX11_strength_136 : decode cX11_strength 136 = .ok (.ireturn, 1) := by decide +kernel
theorem dX11_load_0 : decode cX11_load 0 = .ok (.iload_n 1, 1) := by decide +kernel
theorem dX11_load_1 : decode cX11_load 1 = .ok (.ifCond .lt 24, 3) := by decide +kernel
theorem dX11_load_4 : decode cX11_load 4 = .ok (.aload_n 0, 1) := by decide +kernel
theorem dX11_load_5 : decode cX11_load 5 = .ok (.iload_n 1, 1) := by decide +kernel
theorem dX11_load_6 : decode cX11_load 6 = .ok (.bipush 10, 2) := by decide +kernel
theorem dX11_load_8 : decode cX11_load 8 = .ok (.idiv, 1) := by decide +kernel
theorem dX11_load_9 : decode cX11_load 9 = .ok (.invokevirtual 220, 3) := by decide +kernel
theorem dX11_load_12 : decode cX11_load 12 = .ok (.ifCond .eq 13, 3) := by decide +kernel
theorem dX11_load_15 : decode cX11_load 15 = .ok (.iload_n 1, 1) := by decide +kernel
theorem dX11_load_16 : decode cX11_load 16 = .ok (.bipush 10, 2) := by decide +kernel
theorem dX11_load_18 : decode cX11_load 18 = .ok (.irem, 1) := by decide +kernel
theorem dX11_load_19 : decode cX11_load 19 = .ok (.invokestatic 160, 3) := by decide +kernel
theorem dX11_load_22 : decode cX11_load 22 = .ok (.ifCond .ne 5, 3) := by decide +kernel
theorem dX11_load_25 : decode cX11_load 25 = .ok (.iconst (-1), 1) := by decide +kernel
theorem dX11_load_26 : decode cX11_load 26 = .ok (.ireturn, 1) := by decide +kernel
theorem dX11_load_27 : decode cX11_load 27 = .ok (.iload_n 2, 1) := by decide +kernel
theorem dX11_load_28 : decode cX11_load 28 = .ok (.iconst 1, 1) := by decide +kernel
theorem dX11_load_29 : decode cX11_load 29 = .ok (.if_icmp .lt 20, 3) := by decide +kernel
theorem dX11_load_32 : decode cX11_load 32 = .ok (.iload_n 2, 1) := by decide +kernel
theorem dX11_load_33 : decode cX11_load 33 = .ok (.sipush 200, 3) := by decide +kernel
theorem dX11_load_36 : decode cX11_load 36 = .ok (.if_icmp .gt 13, 3) := by decide +kernel
theorem dX11_load_39 : decode cX11_load 39 = .ok (.iload_n 3, 1) := by decide +kernel
theorem dX11_load_40 : decode cX11_load 40 = .ok (.ifCond .lt 9, 3) := by decide +kernel
theorem dX11_load_43 : decode cX11_load 43 = .ok (.iload_n 3, 1) := by decide +kernel
theorem dX11_load_44 : decode cX11_load 44 = .ok (.bipush 9, 2) := by decide +kernel
theorem dX11_load_46 : decode cX11_load 46 = .ok (.if_icmp .le 5, 3) := by decide +kernel
theorem dX11_load_49 : decode cX11_load 49 = .ok (.iconst (-1), 1) := by decide +kernel
theorem dX11_load_50 : decode cX11_load 50 = .ok (.ireturn, 1) := by decide +kernel
theorem dX11_load_51 : decode cX11_load 51 = .ok (.iload_n 1, 1) := by decide +kernel
theorem dX11_load_52 : decode cX11_load 52 = .ok (.bipush 10, 2) := by decide +kernel
theorem dX11_load_54 : decode cX11_load 54 = .ok (.idiv, 1) := by decide +kernel
theorem dX11_load_55 : decode cX11_load 55 = .ok (.istore 4, 2) := by decide +kernel
theorem dX11_load_57 : decode cX11_load 57 = .ok (.iload_n 1, 1) := by decide +kernel
theorem dX11_load_58 : decode cX11_load 58 = .ok (.bipush 10, 2) := by decide +kernel
theorem dX11_load_60 : decode cX11_load 60 = .ok (.irem, 1) := by decide +kernel
theorem dX11_load_61 : decode cX11_load 61 = .ok (.istore 5, 2) := by decide +kernel
theorem dX11_load_63 : decode cX11_load 63 = .ok (.iload_n 3, 1) := by decide +kernel
theorem dX11_load_64 : decode cX11_load 64 = .ok (.ifCond .le 14, 3) := by decide +kernel
theorem dX11_load_67 : decode cX11_load 67 = .ok (.aload_n 0, 1) := by decide +kernel
theorem dX11_load_68 : decode cX11_load 68 = .ok (.iload 4, 2) := by decide +kernel
theorem dX11_load_70 : decode cX11_load 70 = .ok (.iload 5, 2) := by decide +kernel
theorem dX11_load_72 : decode cX11_load 72 = .ok (.iload_n 2, 1) := by decide +kernel
theorem dX11_load_73 : decode cX11_load 73 = .ok (.iload_n 3, 1) := by decide +kernel
theorem dX11_load_74 : decode cX11_load 74 = .ok (.invokevirtual 223, 3) := by decide +kernel
theorem dX11_load_77 : decode cX11_load 77 = .ok (.ireturn, 1) := by decide +kernel
theorem dX11_load_78 : decode cX11_load 78 = .ok (.iconst 1, 1) := by decide +kernel
theorem dX11_load_79 : decode cX11_load 79 = .ok (.istore 6, 2) := by decide +kernel
theorem dX11_load_81 : decode cX11_load 81 = .ok (.iload 6, 2) := by decide +kernel
theorem dX11_load_83 : decode cX11_load 83 = .ok (.bipush 9, 2) := by decide +kernel
theorem dX11_load_85 : decode cX11_load 85 = .ok (.if_icmp .gt 28, 3) := by decide +kernel
theorem dX11_load_88 : decode cX11_load 88 = .ok (.aload_n 0, 1) := by decide +kernel
theorem dX11_load_89 : decode cX11_load 89 = .ok (.iload 4, 2) := by decide +kernel
theorem dX11_load_91 : decode cX11_load 91 = .ok (.iload 5, 2) := by decide +kernel
theorem dX11_load_93 : decode cX11_load 93 = .ok (.iload_n 2, 1) := by decide +kernel
theorem dX11_load_94 : decode cX11_load 94 = .ok (.iload 6, 2) := by decide +kernel
theorem dX11_load_96 : decode cX11_load 96 = .ok (.invokevirtual 223, 3) := by decide +kernel
theorem dX11_load_99 : decode cX11_load 99 = .ok (.iload 6, 2) := by decide +kernel
theorem dX11_load_101 : decode cX11_load 101 = .ok (.if_icmp .ne 6, 3) := by decide +kernel
theorem dX11_load_104 : decode cX11_load 104 = .ok (.iload 6, 2) := by decide +kernel
theorem dX11_load_106 : decode cX11_load 106 = .ok (.ireturn, 1) := by decide +kernel
theorem dX11_load_107 : decode cX11_load 107 = .ok (.iinc 6 1, 3) := by decide +kernel
theorem dX11_load_110 : decode cX11_load 110 = .ok (.goto (-29), 3) := by decide +kernel
theorem dX11_load_113 : decode cX11_load 113 = .ok (.bipush (-2), 2) := by decide +kernel
theorem dX11_load_115 : decode cX11_load 115 = .ok (.ireturn, 1) := by decide +kernel
theorem dX11_several_0 : decode cX11_several 0 = .ok (.iload_n 1, 1) := by decide +kernel
theorem dX11_several_1 : decode cX11_several 1 = .ok (.iconst (-1), 1) := by decide +kernel
theorem dX11_several_2 : decode cX11_several 2 = .ok (.if_icmp .lt 14, 3) := by decide +kernel
theorem dX11_several_5 : decode cX11_several 5 = .ok (.iload_n 1, 1) := by decide +kernel
theorem dX11_several_6 : decode cX11_several 6 = .ok (.aload_n 0, 1) := by decide +kernel
theorem dX11_several_7 : decode cX11_several 7 = .ok (.getfield 10, 3) := by decide +kernel
theorem dX11_several_10 : decode cX11_several 10 = .ok (.getfield 87, 3) := by decide +kernel
theorem dX11_several_13 : decode cX11_several 13 = .ok (.if_icmp .lt 5, 3) := by decide +kernel
theorem dX11_several_16 : decode cX11_several 16 = .ok (.iconst (-1), 1) := by decide +kernel
theorem dX11_several_17 : decode cX11_several 17 = .ok (.ireturn, 1) := by decide +kernel
theorem dX11_several_18 : decode cX11_several 18 = .ok (.aload_n 0, 1) := by decide +kernel
theorem dX11_several_19 : decode cX11_several 19 = .ok (.getfield 58, 3) := by decide +kernel
theorem dX11_several_22 : decode cX11_several 22 = .ok (.aload_n 0, 1) := by decide +kernel
theorem dX11_several_23 : decode cX11_several 23 = .ok (.getfield 42, 3) := by decide +kernel
theorem dX11_several_26 : decode cX11_several 26 = .ok (.getfield 126, 3) := by decide +kernel
theorem dX11_several_29 : decode cX11_several 29 = .ok (.invokevirtual 227, 3) := by decide +kernel
theorem dX11_several_32 : decode cX11_several 32 = .ok (.istore_n 2, 1) := by decide +kernel
theorem dX11_several_33 : decode cX11_several 33 = .ok (.iload_n 1, 1) := by decide +kernel
theorem dX11_several_34 : decode cX11_several 34 = .ok (.ifCond .ge 7, 3) := by decide +kernel
theorem dX11_several_37 : decode cX11_several 37 = .ok (.iload_n 2, 1) := by decide +kernel
theorem dX11_several_38 : decode cX11_several 38 = .ok (.goto 11, 3) := by decide +kernel
theorem dX11_several_41 : decode cX11_several 41 = .ok (.aload_n 0, 1) := by decide +kernel
theorem dX11_several_42 : decode cX11_several 42 = .ok (.getfield 58, 3) := by decide +kernel
theorem dX11_several_45 : decode cX11_several 45 = .ok (.iload_n 1, 1) := by decide +kernel
theorem dX11_several_46 : decode cX11_several 46 = .ok (.invokevirtual 181, 3) := by decide +kernel
theorem dX11_several_49 : decode cX11_several 49 = .ok (.ireturn, 1) := by decide +kernel
theorem dX11_unsure_0 : decode cX11_unsure 0 = .ok (.iload_n 1, 1) := by decide +kernel
theorem dX11_unsure_1 : decode cX11_unsure 1 = .ok (.invokestatic 95, 3) := by decide +kernel
theorem dX11_unsure_4 : decode cX11_unsure 4 = .ok (.ifCond .eq 19, 3) := by decide +kernel
theorem dX11_unsure_7 : decode cX11_unsure 7 = .ok (.iload_n 2, 1) := by decide +kernel
theorem dX11_unsure_8 : decode cX11_unsure 8 = .ok (.invokestatic 160, 3) := by decide +kernel
theorem dX11_unsure_11 : decode cX11_unsure 11 = .ok (.ifCond .eq 12, 3) := by decide +kernel
theorem dX11_unsure_14 : decode cX11_unsure 14 = .ok (.iload_n 3, 1) := by decide +kernel
theorem dX11_unsure_15 : decode cX11_unsure 15 = .ok (.ifCond .lt 8, 3) := by decide +kernel
theorem dX11_unsure_18 : decode cX11_unsure 18 = .ok (.iload_n 3, 1) := by decide +kernel
theorem dX11_unsure_19 : decode cX11_unsure 19 = .ok (.iconst 1, 1) := by decide +kernel
theorem dX11_unsure_20 : decode cX11_unsure 20 = .ok (.if_icmp .le 7, 3) := by decide +kernel
theorem dX11_unsure_23 : decode cX11_unsure 23 = .ok (.ldc2_w 231, 3) := by decide +kernel
theorem dX11_unsure_26 : decode cX11_unsure 26 = .ok (.lreturn, 1) := by decide +kernel
theorem dX11_unsure_27 : decode cX11_unsure 27 = .ok (.aload_n 0, 1) := by decide +kernel
theorem dX11_unsure_28 : decode cX11_unsure 28 = .ok (.getfield 72, 3) := by decide +kernel
theorem dX11_unsure_31 : decode cX11_unsure 31 = .ok (.iload_n 1, 1) := by decide +kernel
theorem dX11_unsure_32 : decode cX11_unsure 32 = .ok (.invokevirtual 102, 3) := by decide +kernel
theorem dX11_unsure_35 : decode cX11_unsure 35 = .ok (.ifCond .ne 7, 3) := by decide +kernel
theorem dX11_unsure_38 : decode cX11_unsure 38 = .ok (.ldc2_w 231, 3) := by decide +kernel
theorem dX11_unsure_41 : decode cX11_unsure 41 = .ok (.lreturn, 1) := by decide +kernel
theorem dX11_unsure_42 : decode cX11_unsure 42 = .ok (.aload_n 0, 1) := by decide +kernel
theorem dX11_unsure_43 : decode cX11_unsure 43 = .ok (.getfield 51, 3) := by decide +kernel
theorem dX11_unsure_46 : decode cX11_unsure 46 = .ok (.aload_n 0, 1) := by decide +kernel
theorem dX11_unsure_47 : decode cX11_unsure 47 = .ok (.getfield 72, 3) := by decide +kernel
theorem dX11_unsure_50 : decode cX11_unsure 50 = .ok (.iload_n 1, 1) := by decide +kernel
theorem dX11_unsure_51 : decode cX11_unsure 51 = .ok (.iconst 4, 1) := by decide +kernel
theorem dX11_unsure_52 : decode cX11_unsure 52 = .ok (.invokevirtual 187, 3) := by decide +kernel
theorem dX11_unsure_55 : decode cX11_unsure 55 = .ok (.aload_n 0, 1) := by decide +kernel
theorem dX11_unsure_56 : decode cX11_unsure 56 = .ok (.getfield 65, 3) := by decide +kernel
theorem dX11_unsure_59 : decode cX11_unsure 59 = .ok (.aload_n 0, 1) := by decide +kernel
theorem dX11_unsure_60 : decode cX11_unsure 60 = .ok (.getfield 42, 3) := by decide +kernel
theorem dX11_unsure_63 : decode cX11_unsure 63 = .ok (.getfield 126, 3) := by decide +kernel
theorem dX11_unsure_66 : decode cX11_unsure 66 = .ok (.iload_n 2, 1) := by decide +kernel
theorem dX11_unsure_67 : decode cX11_unsure 67 = .ok (.aload_n 0, 1) := by decide +kernel
theorem dX11_unsure_68 : decode cX11_unsure 68 = .ok (.getfield 51, 3) := by decide +kernel
theorem dX11_unsure_71 : decode cX11_unsure 71 = .ok (.invokevirtual 233, 3) := by decide +kernel
theorem dX11_unsure_74 : decode cX11_unsure 74 = .ok (.aload_n 0, 1) := by decide +kernel
theorem dX11_unsure_75 : decode cX11_unsure 75 = .ok (.getfield 65, 3) := by decide +kernel
theorem dX11_unsure_78 : decode cX11_unsure 78 = .ok (.aload_n 0, 1) := by decide +kernel
theorem dX11_unsure_79 : decode cX11_unsure 79 = .ok (.getfield 65, 3) := by decide +kernel
theorem dX11_unsure_82 : decode cX11_unsure 82 = .ok (.invokevirtual 237, 3) := by decide +kernel
theorem dX11_unsure_85 : decode cX11_unsure 85 = .ok (.iload_n 3, 1) := by decide +kernel
theorem dX11_unsure_86 : decode cX11_unsure 86 = .ok (.invokevirtual 241, 3) := by decide +kernel
theorem dX11_unsure_89 : decode cX11_unsure 89 = .ok (.lreturn, 1) := by decide +kernel
theorem dX11_bore_0 : decode cX11_bore 0 = .ok (.iload_n 1, 1) := by decide +kernel
theorem dX11_bore_1 : decode cX11_bore 1 = .ok (.invokestatic 95, 3) := by decide +kernel
theorem dX11_bore_4 : decode cX11_bore 4 = .ok (.ifCond .eq 19, 3) := by decide +kernel
theorem dX11_bore_7 : decode cX11_bore 7 = .ok (.iload_n 2, 1) := by decide +kernel
theorem dX11_bore_8 : decode cX11_bore 8 = .ok (.invokestatic 160, 3) := by decide +kernel
theorem dX11_bore_11 : decode cX11_bore 11 = .ok (.ifCond .eq 12, 3) := by decide +kernel
theorem dX11_bore_14 : decode cX11_bore 14 = .ok (.iload_n 3, 1) := by decide +kernel
theorem dX11_bore_15 : decode cX11_bore 15 = .ok (.ifCond .lt 8, 3) := by decide +kernel
theorem dX11_bore_18 : decode cX11_bore 18 = .ok (.iload_n 3, 1) := by decide +kernel
theorem dX11_bore_19 : decode cX11_bore 19 = .ok (.iconst 2, 1) := by decide +kernel
theorem dX11_bore_20 : decode cX11_bore 20 = .ok (.if_icmp .le 7, 3) := by decide +kernel
theorem dX11_bore_23 : decode cX11_bore 23 = .ok (.ldc2_w 231, 3) := by decide +kernel
theorem dX11_bore_26 : decode cX11_bore 26 = .ok (.lreturn, 1) := by decide +kernel
theorem dX11_bore_27 : decode cX11_bore 27 = .ok (.aload_n 0, 1) := by decide +kernel
theorem dX11_bore_28 : decode cX11_bore 28 = .ok (.getfield 72, 3) := by decide +kernel
theorem dX11_bore_31 : decode cX11_bore 31 = .ok (.iload_n 1, 1) := by decide +kernel
theorem dX11_bore_32 : decode cX11_bore 32 = .ok (.invokevirtual 102, 3) := by decide +kernel
theorem dX11_bore_35 : decode cX11_bore 35 = .ok (.ifCond .ne 7, 3) := by decide +kernel
theorem dX11_bore_38 : decode cX11_bore 38 = .ok (.ldc2_w 231, 3) := by decide +kernel
theorem dX11_bore_41 : decode cX11_bore 41 = .ok (.lreturn, 1) := by decide +kernel
theorem dX11_bore_42 : decode cX11_bore 42 = .ok (.aload_n 0, 1) := by decide +kernel
theorem dX11_bore_43 : decode cX11_bore 43 = .ok (.getfield 51, 3) := by decide +kernel
theorem dX11_bore_46 : decode cX11_bore 46 = .ok (.aload_n 0, 1) := by decide +kernel
theorem dX11_bore_47 : decode cX11_bore 47 = .ok (.getfield 72, 3) := by decide +kernel
theorem dX11_bore_50 : decode cX11_bore 50 = .ok (.iload_n 1, 1) := by decide +kernel
theorem dX11_bore_51 : decode cX11_bore 51 = .ok (.iconst 4, 1) := by decide +kernel
theorem dX11_bore_52 : decode cX11_bore 52 = .ok (.invokevirtual 187, 3) := by decide +kernel
theorem dX11_bore_55 : decode cX11_bore 55 = .ok (.aload_n 0, 1) := by decide +kernel
theorem dX11_bore_56 : decode cX11_bore 56 = .ok (.getfield 65, 3) := by decide +kernel
theorem dX11_bore_59 : decode cX11_bore 59 = .ok (.aload_n 0, 1) := by decide +kernel
theorem dX11_bore_60 : decode cX11_bore 60 = .ok (.getfield 42, 3) := by decide +kernel
theorem dX11_bore_63 : decode cX11_bore 63 = .ok (.getfield 126, 3) := by decide +kernel
theorem dX11_bore_66 : decode cX11_bore 66 = .ok (.iload_n 2, 1) := by decide +kernel
theorem dX11_bore_67 : decode cX11_bore 67 = .ok (.aload_n 0, 1) := by decide +kernel
theorem dX11_bore_68 : decode cX11_bore 68 = .ok (.getfield 51, 3) := by decide +kernel
theorem dX11_bore_71 : decode cX11_bore 71 = .ok (.invokevirtual 233, 3) := by decide +kernel
theorem dX11_bore_74 : decode cX11_bore 74 = .ok (.aload_n 0, 1) := by decide +kernel
theorem dX11_bore_75 : decode cX11_bore 75 = .ok (.getfield 65, 3) := by decide +kernel
theorem dX11_bore_78 : decode cX11_bore 78 = .ok (.invokevirtual 245, 3) := by decide +kernel
theorem dX11_bore_81 : decode cX11_bore 81 = .ok (.istore 4, 2) := by decide +kernel
theorem dX11_bore_83 : decode cX11_bore 83 = .ok (.iload_n 3, 1) := by decide +kernel
theorem dX11_bore_84 : decode cX11_bore 84 = .ok (.iconst 2, 1) := by decide +kernel
theorem dX11_bore_85 : decode cX11_bore 85 = .ok (.if_icmp .ne 14, 3) := by decide +kernel
theorem dX11_bore_88 : decode cX11_bore 88 = .ok (.iload_n 2, 1) := by decide +kernel
theorem dX11_bore_89 : decode cX11_bore 89 = .ok (.bipush 8, 2) := by decide +kernel
theorem dX11_bore_91 : decode cX11_bore 91 = .ok (.imul, 1) := by decide +kernel
theorem dX11_bore_92 : decode cX11_bore 92 = .ok (.iload 4, 2) := by decide +kernel
theorem dX11_bore_94 : decode cX11_bore 94 = .ok (.iadd, 1) := by decide +kernel
theorem dX11_bore_95 : decode cX11_bore 95 = .ok (.i2l, 1) := by decide +kernel
theorem dX11_bore_96 : decode cX11_bore 96 = .ok (.goto 20, 3) := by decide +kernel
theorem dX11_bore_99 : decode cX11_bore 99 = .ok (.aload_n 0, 1) := by decide +kernel
theorem dX11_bore_100 : decode cX11_bore 100 = .ok (.getfield 65, 3) := by decide +kernel
theorem dX11_bore_103 : decode cX11_bore 103 = .ok (.aload_n 0, 1) := by decide +kernel
theorem dX11_bore_104 : decode cX11_bore 104 = .ok (.getfield 65, 3) := by decide +kernel
theorem dX11_bore_107 : decode cX11_bore 107 = .ok (.iload 4, 2) := by decide +kernel
theorem dX11_bore_109 : decode cX11_bore 109 = .ok (.invokevirtual 248, 3) := by decide +kernel
theorem dX11_bore_112 : decode cX11_bore 112 = .ok (.iload_n 3, 1) := by decide +kernel
theorem dX11_bore_113 : decode cX11_bore 113 = .ok (.invokevirtual 241, 3) := by decide +kernel
theorem dX11_bore_116 : decode cX11_bore 116 = .ok (.lreturn, 1) := by decide +kernel
theorem dX11_safe_0 : decode cX11_safe 0 = .ok (.aload_n 0, 1) := by decide +kernel
theorem dX11_safe_1 : decode cX11_safe 1 = .ok (.iload_n 1, 1) := by decide +kernel
theorem dX11_safe_2 : decode cX11_safe 2 = .ok (.invokevirtual 220, 3) := by decide +kernel
theorem dX11_safe_5 : decode cX11_safe 5 = .ok (.ifCond .ne 5, 3) := by decide +kernel
theorem dX11_safe_8 : decode cX11_safe 8 = .ok (.iconst (-1), 1) := by decide +kernel
theorem dX11_safe_9 : decode cX11_safe 9 = .ok (.ireturn, 1) := by decide +kernel
theorem dX11_safe_10 : decode cX11_safe 10 = .ok (.aload_n 0, 1) := by decide +kernel
theorem dX11_safe_11 : decode cX11_safe 11 = .ok (.getfield 51, 3) := by decide +kernel
theorem dX11_safe_14 : decode cX11_safe 14 = .ok (.iload_n 1, 1) := by decide +kernel
theorem dX11_safe_15 : decode cX11_safe 15 = .ok (.invokevirtual 252, 3) := by decide +kernel
theorem dX11_safe_18 : decode cX11_safe 18 = .ok (.iconst 0, 1) := by decide +kernel
theorem dX11_safe_19 : decode cX11_safe 19 = .ok (.istore_n 2, 1) := by decide +kernel
theorem dX11_safe_20 : decode cX11_safe 20 = .ok (.ldc2_w 255, 3) := by decide +kernel
theorem dX11_safe_23 : decode cX11_safe 23 = .ok (.lstore_n 3, 1) := by decide +kernel
theorem dX11_safe_24 : decode cX11_safe 24 = .ok (.iconst 0, 1) := by decide +kernel
theorem dX11_safe_25 : decode cX11_safe 25 = .ok (.istore 5, 2) := by decide +kernel
theorem dX11_safe_27 : decode cX11_safe 27 = .ok (.iload 5, 2) := by decide +kernel
theorem dX11_safe_29 : decode cX11_safe 29 = .ok (.iconst 3, 1) := by decide +kernel
theorem dX11_safe_30 : decode cX11_safe 30 = .ok (.if_icmp .ge 51, 3) := by decide +kernel
theorem dX11_safe_33 : decode cX11_safe 33 = .ok (.aload_n 0, 1) := by decide +kernel
theorem dX11_safe_34 : decode cX11_safe 34 = .ok (.getfield 65, 3) := by decide +kernel
theorem dX11_safe_37 : decode cX11_safe 37 = .ok (.aload_n 0, 1) := by decide +kernel
theorem dX11_safe_38 : decode cX11_safe 38 = .ok (.getfield 42, 3) := by decide +kernel
theorem dX11_safe_41 : decode cX11_safe 41 = .ok (.getfield 126, 3) := by decide +kernel
theorem dX11_safe_44 : decode cX11_safe 44 = .ok (.iload 5, 2) := by decide +kernel
theorem dX11_safe_46 : decode cX11_safe 46 = .ok (.aload_n 0, 1) := by decide +kernel
theorem dX11_safe_47 : decode cX11_safe 47 = .ok (.getfield 51, 3) := by decide +kernel
theorem dX11_safe_50 : decode cX11_safe 50 = .ok (.invokevirtual 233, 3) := by decide +kernel
theorem dX11_safe_53 : decode cX11_safe 53 = .ok (.aload_n 0, 1) := by decide +kernel
theorem dX11_safe_54 : decode cX11_safe 54 = .ok (.getfield 65, 3) := by decide +kernel
theorem dX11_safe_57 : decode cX11_safe 57 = .ok (.invokevirtual 237, 3) := by decide +kernel
theorem dX11_safe_60 : decode cX11_safe 60 = .ok (.lstore 6, 2) := by decide +kernel
theorem dX11_safe_62 : decode cX11_safe 62 = .ok (.lload 6, 2) := by decide +kernel
theorem dX11_safe_64 : decode cX11_safe 64 = .ok (.lload_n 3, 1) := by decide +kernel
theorem dX11_safe_65 : decode cX11_safe 65 = .ok (.lcmp, 1) := by decide +kernel
theorem dX11_safe_66 : decode cX11_safe 66 = .ok (.ifCond .le 9, 3) := by decide +kernel
theorem dX11_safe_69 : decode cX11_safe 69 = .ok (.lload 6, 2) := by decide +kernel
theorem dX11_safe_71 : decode cX11_safe 71 = .ok (.lstore_n 3, 1) := by decide +kernel
theorem dX11_safe_72 : decode cX11_safe 72 = .ok (.iload 5, 2) := by decide +kernel
theorem dX11_safe_74 : decode cX11_safe 74 = .ok (.istore_n 2, 1) := by decide +kernel
theorem dX11_safe_75 : decode cX11_safe 75 = .ok (.iinc 5 1, 3) := by decide +kernel
theorem dX11_safe_78 : decode cX11_safe 78 = .ok (.goto (-51), 3) := by decide +kernel
theorem dX11_safe_81 : decode cX11_safe 81 = .ok (.iload_n 2, 1) := by decide +kernel
theorem dX11_safe_82 : decode cX11_safe 82 = .ok (.ireturn, 1) := by decide +kernel
theorem dX11_who_0 : decode cX11_who 0 = .ok (.iload_n 1, 1) := by decide +kernel
theorem dX11_who_1 : decode cX11_who 1 = .ok (.invokestatic 95, 3) := by decide +kernel
theorem dX11_who_4 : decode cX11_who 4 = .ok (.ifCond .eq 19, 3) := by decide +kernel
theorem dX11_who_7 : decode cX11_who 7 = .ok (.iload_n 2, 1) := by decide +kernel
theorem dX11_who_8 : decode cX11_who 8 = .ok (.invokestatic 160, 3) := by decide +kernel
theorem dX11_who_11 : decode cX11_who 11 = .ok (.ifCond .eq 12, 3) := by decide +kernel
theorem dX11_who_14 : decode cX11_who 14 = .ok (.iload_n 3, 1) := by decide +kernel
theorem dX11_who_15 : decode cX11_who 15 = .ok (.ifCond .lt 8, 3) := by decide +kernel
theorem dX11_who_18 : decode cX11_who 18 = .ok (.iload_n 3, 1) := by decide +kernel
theorem dX11_who_19 : decode cX11_who 19 = .ok (.iconst 2, 1) := by decide +kernel
theorem dX11_who_20 : decode cX11_who 20 = .ok (.if_icmp .le 5, 3) := by decide +kernel
theorem dX11_who_23 : decode cX11_who 23 = .ok (.iconst (-1), 1) := by decide +kernel
theorem dX11_who_24 : decode cX11_who 24 = .ok (.ireturn, 1) := by decide +kernel
theorem dX11_who_25 : decode cX11_who 25 = .ok (.aload_n 0, 1) := by decide +kernel
theorem dX11_who_26 : decode cX11_who 26 = .ok (.getfield 72, 3) := by decide +kernel
theorem dX11_who_29 : decode cX11_who 29 = .ok (.iload_n 1, 1) := by decide +kernel
theorem dX11_who_30 : decode cX11_who 30 = .ok (.invokevirtual 163, 3) := by decide +kernel
theorem dX11_who_33 : decode cX11_who 33 = .ok (.istore 4, 2) := by decide +kernel
theorem dX11_who_35 : decode cX11_who 35 = .ok (.iload 4, 2) := by decide +kernel
theorem dX11_who_37 : decode cX11_who 37 = .ok (.ifCond .eq 6, 3) := by decide +kernel
theorem dX11_who_40 : decode cX11_who 40 = .ok (.iload 4, 2) := by decide +kernel
theorem dX11_who_42 : decode cX11_who 42 = .ok (.ireturn, 1) := by decide +kernel
theorem dX11_who_43 : decode cX11_who 43 = .ok (.iconst 0, 1) := by decide +kernel
theorem dX11_who_44 : decode cX11_who 44 = .ok (.istore 5, 2) := by decide +kernel
theorem dX11_who_46 : decode cX11_who 46 = .ok (.bipush (-2), 2) := by decide +kernel
theorem dX11_who_48 : decode cX11_who 48 = .ok (.istore 6, 2) := by decide +kernel
theorem dX11_who_50 : decode cX11_who 50 = .ok (.iconst 0, 1) := by decide +kernel
theorem dX11_who_51 : decode cX11_who 51 = .ok (.istore 7, 2) := by decide +kernel
theorem dX11_who_53 : decode cX11_who 53 = .ok (.iconst 1, 1) := by decide +kernel
theorem dX11_who_54 : decode cX11_who 54 = .ok (.aload_n 0, 1) := by decide +kernel
theorem dX11_who_55 : decode cX11_who 55 = .ok (.getfield 10, 3) := by decide +kernel
theorem dX11_who_58 : decode cX11_who 58 = .ok (.getfield 87, 3) := by decide +kernel
theorem dX11_who_61 : decode cX11_who 61 = .ok (.ishl, 1) := by decide +kernel
theorem dX11_who_62 : decode cX11_who 62 = .ok (.istore 8, 2) := by decide +kernel
theorem dX11_who_64 : decode cX11_who 64 = .ok (.iconst 0, 1) := by decide +kernel
theorem dX11_who_65 : decode cX11_who 65 = .ok (.istore 9, 2) := by decide +kernel
theorem dX11_who_67 : decode cX11_who 67 = .ok (.iload 9, 2) := by decide +kernel
theorem dX11_who_69 : decode cX11_who 69 = .ok (.iload 8, 2) := by decide +kernel
theorem dX11_who_71 : decode cX11_who 71 = .ok (.if_icmp .ge 57, 3) := by decide +kernel
theorem dX11_who_74 : decode cX11_who 74 = .ok (.aload_n 0, 1) := by decide +kernel
theorem dX11_who_75 : decode cX11_who 75 = .ok (.iload_n 1, 1) := by decide +kernel
theorem dX11_who_76 : decode cX11_who 76 = .ok (.iload_n 2, 1) := by decide +kernel
theorem dX11_who_77 : decode cX11_who 77 = .ok (.iload 9, 2) := by decide +kernel
theorem dX11_who_79 : decode cX11_who 79 = .ok (.invokevirtual 257, 3) := by decide +kernel
theorem dX11_who_82 : decode cX11_who 82 = .ok (.ifCond .ne 6, 3) := by decide +kernel
theorem dX11_who_85 : decode cX11_who 85 = .ok (.goto 37, 3) := by decide +kernel
theorem dX11_who_88 : decode cX11_who 88 = .ok (.iload 5, 2) := by decide +kernel
theorem dX11_who_90 : decode cX11_who 90 = .ok (.ifCond .ne 8, 3) := by decide +kernel
theorem dX11_who_93 : decode cX11_who 93 = .ok (.iload 9, 2) := by decide +kernel
theorem dX11_who_95 : decode cX11_who 95 = .ok (.goto 5, 3) := by decide +kernel
theorem dX11_who_98 : decode cX11_who 98 = .ok (.iload 6, 2) := by decide +kernel
theorem dX11_who_100 : decode cX11_who 100 = .ok (.istore 6, 2) := by decide +kernel
theorem dX11_who_102 : decode cX11_who 102 = .ok (.iload 5, 2) := by decide +kernel
theorem dX11_who_104 : decode cX11_who 104 = .ok (.ifCond .ne 8, 3) := by decide +kernel
theorem dX11_who_107 : decode cX11_who 107 = .ok (.iload 9, 2) := by decide +kernel
theorem dX11_who_109 : decode cX11_who 109 = .ok (.goto 8, 3) := by decide +kernel
theorem dX11_who_112 : decode cX11_who 112 = .ok (.iload 7, 2) := by decide +kernel
theorem dX11_who_114 : decode cX11_who 114 = .ok (.iload 9, 2) := by decide +kernel
theorem dX11_who_116 : decode cX11_who 116 = .ok (.iand, 1) := by decide +kernel
theorem dX11_who_117 : decode cX11_who 117 = .ok (.istore 7, 2) := by decide +kernel
theorem dX11_who_119 : decode cX11_who 119 = .ok (.iinc 5 1, 3) := by decide +kernel
theorem dX11_who_122 : decode cX11_who 122 = .ok (.iinc 9 1, 3) := by decide +kernel
theorem dX11_who_125 : decode cX11_who 125 = .ok (.goto (-58), 3) := by decide +kernel
theorem dX11_who_128 : decode cX11_who 128 = .ok (.iload_n 3, 1) := by decide +kernel
theorem dX11_who_129 : decode cX11_who 129 = .ok (.ifCond .ne 6, 3) := by decide +kernel
theorem dX11_who_132 : decode cX11_who 132 = .ok (.iload 5, 2) := by decide +kernel
theorem dX11_who_134 : decode cX11_who 134 = .ok (.ireturn, 1) := by decide +kernel
theorem dX11_who_135 : decode cX11_who 135 = .ok (.iload_n 3, 1) := by decide +kernel
theorem dX11_who_136 : decode cX11_who 136 = .ok (.iconst 1, 1) := by decide +kernel
theorem dX11_who_137 : decode cX11_who 137 = .ok (.if_icmp .ne 8, 3) := by decide +kernel
theorem dX11_who_140 : decode cX11_who 140 = .ok (.iload 6, 2) := by decide +kernel
theorem dX11_who_142 : decode cX11_who 142 = .ok (.goto 5, 3) := by decide +kernel
theorem dX11_who_145 : decode cX11_who 145 = .ok (.iload 7, 2) := by decide +kernel
theorem dX11_who_147 : decode cX11_who 147 = .ok (.ireturn, 1) := by decide +kernel
theorem dX11_judge_0 : decode cX11_judge 0 = .ok (.iload_n 1, 1) := by decide +kernel
theorem dX11_judge_1 : decode cX11_judge 1 = .ok (.invokestatic 95, 3) := by decide +kernel
theorem dX11_judge_4 : decode cX11_judge 4 = .ok (.ifCond .ne 5, 3) := by decide +kernel
theorem dX11_judge_7 : decode cX11_judge 7 = .ok (.iconst (-1), 1) := by decide +kernel
theorem dX11_judge_8 : decode cX11_judge 8 = .ok (.ireturn, 1) := by decide +kernel
theorem dX11_judge_9 : decode cX11_judge 9 = .ok (.aload_n 0, 1) := by decide +kernel
theorem dX11_judge_10 : decode cX11_judge 10 = .ok (.getfield 72, 3) := by decide +kernel
theorem dX11_judge_13 : decode cX11_judge 13 = .ok (.iload_n 1, 1) := by decide +kernel
theorem dX11_judge_14 : decode cX11_judge 14 = .ok (.invokevirtual 163, 3) := by decide +kernel
theorem dX11_judge_17 : decode cX11_judge 17 = .ok (.istore_n 2, 1) := by decide +kernel
theorem dX11_judge_18 : decode cX11_judge 18 = .ok (.iload_n 2, 1) := by decide +kernel
theorem dX11_judge_19 : decode cX11_judge 19 = .ok (.ifCond .eq 5, 3) := by decide +kernel
theorem dX11_judge_22 : decode cX11_judge 22 = .ok (.iload_n 2, 1) := by decide +kernel
theorem dX11_judge_23 : decode cX11_judge 23 = .ok (.ireturn, 1) := by decide +kernel
theorem dX11_judge_24 : decode cX11_judge 24 = .ok (.aload_n 0, 1) := by decide +kernel
theorem dX11_judge_25 : decode cX11_judge 25 = .ok (.getfield 35, 3) := by decide +kernel
theorem dX11_judge_28 : decode cX11_judge 28 = .ok (.aload_n 0, 1) := by decide +kernel
theorem dX11_judge_29 : decode cX11_judge 29 = .ok (.getfield 51, 3) := by decide +kernel
theorem dX11_judge_32 : decode cX11_judge 32 = .ok (.getfield 176, 3) := by decide +kernel
theorem dX11_judge_35 : decode cX11_judge 35 = .ok (.aload_n 0, 1) := by decide +kernel
theorem dX11_judge_36 : decode cX11_judge 36 = .ok (.getfield 42, 3) := by decide +kernel
theorem dX11_judge_39 : decode cX11_judge 39 = .ok (.getfield 126, 3) := by decide +kernel
theorem dX11_judge_42 : decode cX11_judge 42 = .ok (.invokevirtual 194, 3) := by decide +kernel
theorem dX11_judge_45 : decode cX11_judge 45 = .ok (.aload_n 0, 1) := by decide +kernel
theorem dX11_judge_46 : decode cX11_judge 46 = .ok (.getfield 72, 3) := by decide +kernel
theorem dX11_judge_49 : decode cX11_judge 49 = .ok (.iload_n 1, 1) := by decide +kernel
theorem dX11_judge_50 : decode cX11_judge 50 = .ok (.invokevirtual 260, 3) := by decide +kernel
theorem dX11_judge_53 : decode cX11_judge 53 = .ok (.istore_n 3, 1) := by decide +kernel
theorem dX11_judge_54 : decode cX11_judge 54 = .ok (.iconst 0, 1) := by decide +kernel
theorem dX11_judge_55 : decode cX11_judge 55 = .ok (.istore 4, 2) := by decide +kernel
theorem dX11_judge_57 : decode cX11_judge 57 = .ok (.iload 4, 2) := by decide +kernel
theorem dX11_judge_59 : decode cX11_judge 59 = .ok (.iload_n 3, 1) := by decide +kernel
theorem dX11_judge_60 : decode cX11_judge 60 = .ok (.if_icmp .ge 32, 3) := by decide +kernel
theorem dX11_judge_63 : decode cX11_judge 63 = .ok (.iload 4, 2) := by decide +kernel
theorem dX11_judge_65 : decode cX11_judge 65 = .ok (.iconst 3, 1) := by decide +kernel
theorem dX11_judge_66 : decode cX11_judge 66 = .ok (.iadd, 1) := by decide +kernel
theorem dX11_judge_67 : decode cX11_judge 67 = .ok (.iload_n 3, 1) := by decide +kernel
theorem dX11_judge_68 : decode cX11_judge 68 = .ok (.if_icmp .gt 13, 3) := by decide +kernel
theorem dX11_judge_71 : decode cX11_judge 71 = .ok (.aload_n 0, 1) := by decide +kernel
theorem dX11_judge_72 : decode cX11_judge 72 = .ok (.iload_n 1, 1) := by decide +kernel
theorem dX11_judge_73 : decode cX11_judge 73 = .ok (.iload 4, 2) := by decide +kernel
theorem dX11_judge_75 : decode cX11_judge 75 = .ok (.invokevirtual 263, 3) := by decide +kernel
theorem dX11_judge_78 : decode cX11_judge 78 = .ok (.ifCond .ne 8, 3) := by decide +kernel
theorem dX11_judge_81 : decode cX11_judge 81 = .ok (.iload 4, 2) := by decide +kernel
theorem dX11_judge_83 : decode cX11_judge 83 = .ok (.iconst 3, 1) := by decide +kernel
theorem dX11_judge_84 : decode cX11_judge 84 = .ok (.idiv, 1) := by decide +kernel
theorem dX11_judge_85 : decode cX11_judge 85 = .ok (.ireturn, 1) := by decide +kernel
theorem dX11_judge_86 : decode cX11_judge 86 = .ok (.iinc 4 3, 3) := by decide +kernel
theorem dX11_judge_89 : decode cX11_judge 89 = .ok (.goto (-32), 3) := by decide +kernel
theorem dX11_judge_92 : decode cX11_judge 92 = .ok (.bipush (-2), 2) := by decide +kernel
theorem dX11_judge_94 : decode cX11_judge 94 = .ok (.ireturn, 1) := by decide +kernel
theorem dX11_drawn_0 : decode cX11_drawn 0 = .ok (.iload_n 2, 1) := by decide +kernel
theorem dX11_drawn_1 : decode cX11_drawn 1 = .ok (.bipush 10, 2) := by decide +kernel
theorem dX11_drawn_3 : decode cX11_drawn 3 = .ok (.if_icmp .lt 31, 3) := by decide +kernel
theorem dX11_drawn_6 : decode cX11_drawn 6 = .ok (.iload_n 2, 1) := by decide +kernel
theorem dX11_drawn_7 : decode cX11_drawn 7 = .ok (.bipush 10, 2) := by decide +kernel
theorem dX11_drawn_9 : decode cX11_drawn 9 = .ok (.idiv, 1) := by decide +kernel
theorem dX11_drawn_10 : decode cX11_drawn 10 = .ok (.bipush 20, 2) := by decide +kernel
theorem dX11_drawn_12 : decode cX11_drawn 12 = .ok (.if_icmp .gt 22, 3) := by decide +kernel
theorem dX11_drawn_15 : decode cX11_drawn 15 = .ok (.iload_n 2, 1) := by decide +kernel
theorem dX11_drawn_16 : decode cX11_drawn 16 = .ok (.bipush 10, 2) := by decide +kernel
theorem dX11_drawn_18 : decode cX11_drawn 18 = .ok (.irem, 1) := by decide +kernel
theorem dX11_drawn_19 : decode cX11_drawn 19 = .ok (.invokestatic 160, 3) := by decide +kernel
theorem dX11_drawn_22 : decode cX11_drawn 22 = .ok (.ifCond .eq 12, 3) := by decide +kernel
theorem dX11_drawn_25 : decode cX11_drawn 25 = .ok (.iload_n 3, 1) := by decide +kernel
theorem dX11_drawn_26 : decode cX11_drawn 26 = .ok (.ifCond .lt 8, 3) := by decide +kernel
theorem dX11_drawn_29 : decode cX11_drawn 29 = .ok (.iload_n 3, 1) := by decide +kernel
theorem dX11_drawn_30 : decode cX11_drawn 30 = .ok (.iconst 1, 1) := by decide +kernel
theorem dX11_drawn_31 : decode cX11_drawn 31 = .ok (.if_icmp .le 5, 3) := by decide +kernel
theorem dX11_drawn_34 : decode cX11_drawn 34 = .ok (.iconst (-1), 1) := by decide +kernel
theorem dX11_drawn_35 : decode cX11_drawn 35 = .ok (.ireturn, 1) := by decide +kernel
theorem dX11_drawn_36 : decode cX11_drawn 36 = .ok (.iload_n 2, 1) := by decide +kernel
theorem dX11_drawn_37 : decode cX11_drawn 37 = .ok (.bipush 10, 2) := by decide +kernel
theorem dX11_drawn_39 : decode cX11_drawn 39 = .ok (.idiv, 1) := by decide +kernel
theorem dX11_drawn_40 : decode cX11_drawn 40 = .ok (.istore 4, 2) := by decide +kernel
theorem dX11_drawn_42 : decode cX11_drawn 42 = .ok (.iload_n 2, 1) := by decide +kernel
theorem dX11_drawn_43 : decode cX11_drawn 43 = .ok (.bipush 10, 2) := by decide +kernel
theorem dX11_drawn_45 : decode cX11_drawn 45 = .ok (.irem, 1) := by decide +kernel
theorem dX11_drawn_46 : decode cX11_drawn 46 = .ok (.istore 5, 2) := by decide +kernel
theorem dX11_drawn_48 : decode cX11_drawn 48 = .ok (.iload_n 1, 1) := by decide +kernel
theorem dX11_drawn_49 : decode cX11_drawn 49 = .ok (.istore 6, 2) := by decide +kernel
theorem dX11_drawn_51 : decode cX11_drawn 51 = .ok (.iconst 0, 1) := by decide +kernel
theorem dX11_drawn_52 : decode cX11_drawn 52 = .ok (.istore 7, 2) := by decide +kernel
theorem dX11_drawn_54 : decode cX11_drawn 54 = .ok (.iconst 0, 1) := by decide +kernel
theorem dX11_drawn_55 : decode cX11_drawn 55 = .ok (.istore 8, 2) := by decide +kernel
theorem dX11_drawn_57 : decode cX11_drawn 57 = .ok (.aload_n 0, 1) := by decide +kernel
theorem dX11_drawn_58 : decode cX11_drawn 58 = .ok (.getfield 51, 3) := by decide +kernel
theorem dX11_drawn_61 : decode cX11_drawn 61 = .ok (.invokevirtual 266, 3) := by decide +kernel
theorem dX11_drawn_64 : decode cX11_drawn 64 = .ok (.iconst 0, 1) := by decide +kernel
theorem dX11_drawn_65 : decode cX11_drawn 65 = .ok (.istore 9, 2) := by decide +kernel
theorem dX11_drawn_67 : decode cX11_drawn 67 = .ok (.iload 9, 2) := by decide +kernel
theorem dX11_drawn_69 : decode cX11_drawn 69 = .ok (.iload 4, 2) := by decide +kernel
theorem dX11_drawn_71 : decode cX11_drawn 71 = .ok (.if_icmp .ge 98, 3) := by decide +kernel
theorem dX11_drawn_74 : decode cX11_drawn 74 = .ok (.aload_n 0, 1) := by decide +kernel
theorem dX11_drawn_75 : decode cX11_drawn 75 = .ok (.getfield 35, 3) := by decide +kernel
theorem dX11_drawn_78 : decode cX11_drawn 78 = .ok (.aload_n 0, 1) := by decide +kernel
theorem dX11_drawn_79 : decode cX11_drawn 79 = .ok (.getfield 51, 3) := by decide +kernel
theorem dX11_drawn_82 : decode cX11_drawn 82 = .ok (.getfield 176, 3) := by decide +kernel
theorem dX11_drawn_85 : decode cX11_drawn 85 = .ok (.aload_n 0, 1) := by decide +kernel
theorem dX11_drawn_86 : decode cX11_drawn 86 = .ok (.getfield 42, 3) := by decide +kernel
theorem dX11_drawn_89 : decode cX11_drawn 89 = .ok (.getfield 126, 3) := by decide +kernel
theorem dX11_drawn_92 : decode cX11_drawn 92 = .ok (.invokevirtual 194, 3) := by decide +kernel
theorem dX11_drawn_95 : decode cX11_drawn 95 = .ok (.aload_n 0, 1) := by decide +kernel
theorem dX11_drawn_96 : decode cX11_drawn 96 = .ok (.getfield 35, 3) := by decide +kernel
theorem dX11_drawn_99 : decode cX11_drawn 99 = .ok (.aload_n 0, 1) := by decide +kernel
theorem dX11_drawn_100 : decode cX11_drawn 100 = .ok (.getfield 51, 3) := by decide +kernel
theorem dX11_drawn_103 : decode cX11_drawn 103 = .ok (.getfield 176, 3) := by decide +kernel
theorem dX11_drawn_106 : decode cX11_drawn 106 = .ok (.iload 5, 2) := by decide +kernel
theorem dX11_drawn_108 : decode cX11_drawn 108 = .ok (.iload 6, 2) := by decide +kernel
theorem dX11_drawn_110 : decode cX11_drawn 110 = .ok (.invokevirtual 269, 3) := by decide +kernel
theorem dX11_drawn_113 : decode cX11_drawn 113 = .ok (.istore 6, 2) := by decide +kernel
theorem dX11_drawn_115 : decode cX11_drawn 115 = .ok (.aload_n 0, 1) := by decide +kernel
theorem dX11_drawn_116 : decode cX11_drawn 116 = .ok (.getfield 51, 3) := by decide +kernel
theorem dX11_drawn_119 : decode cX11_drawn 119 = .ok (.iload 5, 2) := by decide +kernel
theorem dX11_drawn_121 : decode cX11_drawn 121 = .ok (.invokevirtual 217, 3) := by decide +kernel
theorem dX11_drawn_124 : decode cX11_drawn 124 = .ok (.iload 7, 2) := by decide +kernel
theorem dX11_drawn_126 : decode cX11_drawn 126 = .ok (.aload_n 0, 1) := by decide +kernel
theorem dX11_drawn_127 : decode cX11_drawn 127 = .ok (.getfield 51, 3) := by decide +kernel
theorem dX11_drawn_130 : decode cX11_drawn 130 = .ok (.getfield 170, 3) := by decide +kernel
theorem dX11_drawn_133 : decode cX11_drawn 133 = .ok (.iadd, 1) := by decide +kernel
theorem dX11_drawn_134 : decode cX11_drawn 134 = .ok (.istore 7, 2) := by decide +kernel
theorem dX11_drawn_136 : decode cX11_drawn 136 = .ok (.iload 8, 2) := by decide +kernel
theorem dX11_drawn_138 : decode cX11_drawn 138 = .ok (.aload_n 0, 1) := by decide +kernel
theorem dX11_drawn_139 : decode cX11_drawn 139 = .ok (.getfield 51, 3) := by decide +kernel
theorem dX11_drawn_142 : decode cX11_drawn 142 = .ok (.getfield 170, 3) := by decide +kernel
theorem dX11_drawn_145 : decode cX11_drawn 145 = .ok (.aload_n 0, 1) := by decide +kernel
theorem dX11_drawn_146 : decode cX11_drawn 146 = .ok (.getfield 51, 3) := by decide +kernel
theorem dX11_drawn_149 : decode cX11_drawn 149 = .ok (.getfield 191, 3) := by decide +kernel
theorem dX11_drawn_152 : decode cX11_drawn 152 = .ok (.if_icmp .ne 7, 3) := by decide +kernel
theorem dX11_drawn_155 : decode cX11_drawn 155 = .ok (.iconst 1, 1) := by decide +kernel
theorem dX11_drawn_156 : decode cX11_drawn 156 = .ok (.goto 4, 3) := by decide +kernel
theorem dX11_drawn_159 : decode cX11_drawn 159 = .ok (.iconst 0, 1) := by decide +kernel
theorem dX11_drawn_160 : decode cX11_drawn 160 = .ok (.iadd, 1) := by decide +kernel
theorem dX11_drawn_161 : decode cX11_drawn 161 = .ok (.istore 8, 2) := by decide +kernel
theorem dX11_drawn_163 : decode cX11_drawn 163 = .ok (.iinc 9 1, 3) := by decide +kernel
theorem dX11_drawn_166 : decode cX11_drawn 166 = .ok (.goto (-99), 3) := by decide +kernel
theorem dX11_drawn_169 : decode cX11_drawn 169 = .ok (.iload_n 3, 1) := by decide +kernel
theorem dX11_drawn_170 : decode cX11_drawn 170 = .ok (.ifCond .ne 8, 3) := by decide +kernel
theorem dX11_drawn_173 : decode cX11_drawn 173 = .ok (.iload 7, 2) := by decide +kernel
theorem dX11_drawn_175 : decode cX11_drawn 175 = .ok (.goto 5, 3) := by decide +kernel
theorem dX11_drawn_178 : decode cX11_drawn 178 = .ok (.iload 8, 2) := by decide +kernel
theorem dX11_drawn_180 : decode cX11_drawn 180 = .ok (.ireturn, 1) := by decide +kernel
theorem dX11_go_0 : decode cX11_go 0 = .ok (.aload_n 0, 1) := by decide +kernel
theorem dX11_go_1 : decode cX11_go 1 = .ok (.iload_n 1, 1) := by decide +kernel
theorem dX11_go_2 : decode cX11_go 2 = .ok (.invokevirtual 220, 3) := by decide +kernel
theorem dX11_go_5 : decode cX11_go 5 = .ok (.ifCond .eq 10, 3) := by decide +kernel
theorem dX11_go_8 : decode cX11_go 8 = .ok (.iload_n 2, 1) := by decide +kernel
theorem dX11_go_9 : decode cX11_go 9 = .ok (.invokestatic 160, 3) := by decide +kernel
theorem dX11_go_12 : decode cX11_go 12 = .ok (.ifCond .ne 5, 3) := by decide +kernel
theorem dX11_go_15 : decode cX11_go 15 = .ok (.iconst (-1), 1) := by decide +kernel
theorem dX11_go_16 : decode cX11_go 16 = .ok (.ireturn, 1) := by decide +kernel
theorem dX11_go_17 : decode cX11_go 17 = .ok (.aload_n 0, 1) := by decide +kernel
theorem dX11_go_18 : decode cX11_go 18 = .ok (.getfield 35, 3) := by decide +kernel
theorem dX11_go_21 : decode cX11_go 21 = .ok (.aload_n 0, 1) := by decide +kernel
theorem dX11_go_22 : decode cX11_go 22 = .ok (.getfield 42, 3) := by decide +kernel
theorem dX11_go_25 : decode cX11_go 25 = .ok (.getfield 126, 3) := by decide +kernel
theorem dX11_go_28 : decode cX11_go 28 = .ok (.invokevirtual 138, 3) := by decide +kernel
theorem dX11_go_31 : decode cX11_go 31 = .ok (.aload_n 0, 1) := by decide +kernel
theorem dX11_go_32 : decode cX11_go 32 = .ok (.getfield 35, 3) := by decide +kernel
theorem dX11_go_35 : decode cX11_go 35 = .ok (.aload_n 0, 1) := by decide +kernel
theorem dX11_go_36 : decode cX11_go 36 = .ok (.getfield 42, 3) := by decide +kernel
theorem dX11_go_39 : decode cX11_go 39 = .ok (.getfield 126, 3) := by decide +kernel
theorem dX11_go_42 : decode cX11_go 42 = .ok (.iload_n 2, 1) := by decide +kernel
theorem dX11_go_43 : decode cX11_go 43 = .ok (.iload_n 1, 1) := by decide +kernel
theorem dX11_go_44 : decode cX11_go 44 = .ok (.iconst 0, 1) := by decide +kernel
theorem dX11_go_45 : decode cX11_go 45 = .ok (.iconst 0, 1) := by decide +kernel
theorem dX11_go_46 : decode cX11_go 46 = .ok (.invokevirtual 272, 3) := by decide +kernel
theorem dX11_go_49 : decode cX11_go 49 = .ok (.istore_n 3, 1) := by decide +kernel
theorem dX11_go_50 : decode cX11_go 50 = .ok (.aload_n 0, 1) := by decide +kernel
theorem dX11_go_51 : decode cX11_go 51 = .ok (.getfield 42, 3) := by decide +kernel
theorem dX11_go_54 : decode cX11_go 54 = .ok (.iload_n 3, 1) := by decide +kernel
theorem dX11_go_55 : decode cX11_go 55 = .ok (.aload_n 0, 1) := by decide +kernel
theorem dX11_go_56 : decode cX11_go 56 = .ok (.getfield 10, 3) := by decide +kernel
theorem dX11_go_59 : decode cX11_go 59 = .ok (.iload_n 1, 1) := by decide +kernel
theorem dX11_go_60 : decode cX11_go 60 = .ok (.iconst 4, 1) := by decide +kernel
theorem dX11_go_61 : decode cX11_go 61 = .ok (.invokevirtual 115, 3) := by decide +kernel
theorem dX11_go_64 : decode cX11_go 64 = .ok (.invokevirtual 276, 3) := by decide +kernel
theorem dX11_go_67 : decode cX11_go 67 = .ok (.iload_n 3, 1) := by decide +kernel
theorem dX11_go_68 : decode cX11_go 68 = .ok (.iconst (-1), 1) := by decide +kernel
theorem dX11_go_69 : decode cX11_go 69 = .ok (.if_icmp .ne 7, 3) := by decide +kernel
theorem dX11_go_72 : decode cX11_go 72 = .ok (.iconst 1, 1) := by decide +kernel
theorem dX11_go_73 : decode cX11_go 73 = .ok (.goto 4, 3) := by decide +kernel
theorem dX11_go_76 : decode cX11_go 76 = .ok (.iconst 0, 1) := by decide +kernel
theorem dX11_go_77 : decode cX11_go 77 = .ok (.ireturn, 1) := by decide +kernel
theorem dX11_stay_0 : decode cX11_stay 0 = .ok (.iload_n 1, 1) := by decide +kernel
theorem dX11_stay_1 : decode cX11_stay 1 = .ok (.iconst 1, 1) := by decide +kernel
theorem dX11_stay_2 : decode cX11_stay 2 = .ok (.if_icmp .lt 10, 3) := by decide +kernel
theorem dX11_stay_5 : decode cX11_stay 5 = .ok (.iload_n 1, 1) := by decide +kernel
theorem dX11_stay_6 : decode cX11_stay 6 = .ok (.sipush 999, 3) := by decide +kernel
theorem dX11_stay_9 : decode cX11_stay 9 = .ok (.if_icmp .le 5, 3) := by decide +kernel
theorem dX11_stay_12 : decode cX11_stay 12 = .ok (.iconst (-1), 1) := by decide +kernel
theorem dX11_stay_13 : decode cX11_stay 13 = .ok (.ireturn, 1) := by decide +kernel
theorem dX11_stay_14 : decode cX11_stay 14 = .ok (.aload_n 0, 1) := by decide +kernel
theorem dX11_stay_15 : decode cX11_stay 15 = .ok (.getfield 42, 3) := by decide +kernel
theorem dX11_stay_18 : decode cX11_stay 18 = .ok (.getfield 126, 3) := by decide +kernel
theorem dX11_stay_21 : decode cX11_stay 21 = .ok (.getfield 130, 3) := by decide +kernel
theorem dX11_stay_24 : decode cX11_stay 24 = .ok (.iload_n 1, 1) := by decide +kernel
theorem dX11_stay_25 : decode cX11_stay 25 = .ok (.iadd, 1) := by decide +kernel
theorem dX11_stay_26 : decode cX11_stay 26 = .ok (.sipush 9999, 3) := by decide +kernel
theorem dX11_stay_29 : decode cX11_stay 29 = .ok (.if_icmp .le 6, 3) := by decide +kernel
theorem dX11_stay_32 : decode cX11_stay 32 = .ok (.bipush (-5), 2) := by decide +kernel
theorem dX11_stay_34 : decode cX11_stay 34 = .ok (.ireturn, 1) := by decide +kernel
theorem dX11_stay_35 : decode cX11_stay 35 = .ok (.aload_n 0, 1) := by decide +kernel
theorem dX11_stay_36 : decode cX11_stay 36 = .ok (.getfield 35, 3) := by decide +kernel
theorem dX11_stay_39 : decode cX11_stay 39 = .ok (.aload_n 0, 1) := by decide +kernel
theorem dX11_stay_40 : decode cX11_stay 40 = .ok (.getfield 42, 3) := by decide +kernel
theorem dX11_stay_43 : decode cX11_stay 43 = .ok (.getfield 126, 3) := by decide +kernel
theorem dX11_stay_46 : decode cX11_stay 46 = .ok (.iload_n 1, 1) := by decide +kernel
theorem dX11_stay_47 : decode cX11_stay 47 = .ok (.invokevirtual 279, 3) := by decide +kernel
theorem dX11_stay_50 : decode cX11_stay 50 = .ok (.aload_n 0, 1) := by decide +kernel
theorem dX11_stay_51 : decode cX11_stay 51 = .ok (.getfield 42, 3) := by decide +kernel
theorem dX11_stay_54 : decode cX11_stay 54 = .ok (.getfield 126, 3) := by decide +kernel
theorem dX11_stay_57 : decode cX11_stay 57 = .ok (.getfield 130, 3) := by decide +kernel
theorem dX11_stay_60 : decode cX11_stay 60 = .ok (.ireturn, 1) := by decide +kernel
theorem dX11_led_0 : decode cX11_led 0 = .ok (.aload_n 0, 1) := by decide +kernel
theorem dX11_led_1 : decode cX11_led 1 = .ok (.getfield 42, 3) := by decide +kernel
theorem dX11_led_4 : decode cX11_led 4 = .ok (.iload_n 1, 1) := by decide +kernel
theorem dX11_led_5 : decode cX11_led 5 = .ok (.invokevirtual 283, 3) := by decide +kernel
theorem dX11_led_8 : decode cX11_led 8 = .ok (.ireturn, 1) := by decide +kernel
theorem dX11_image_0 : decode cX11_image 0 = .ok (.aload_n 0, 1) := by decide +kernel
theorem dX11_image_1 : decode cX11_image 1 = .ok (.getfield 42, 3) := by decide +kernel
theorem dX11_image_4 : decode cX11_image 4 = .ok (.invokevirtual 286, 3) := by decide +kernel
theorem dX11_image_7 : decode cX11_image 7 = .ok (.aload_n 0, 1) := by decide +kernel
theorem dX11_image_8 : decode cX11_image 8 = .ok (.getfield 42, 3) := by decide +kernel
theorem dX11_image_11 : decode cX11_image 11 = .ok (.getfield 126, 3) := by decide +kernel
theorem dX11_image_14 : decode cX11_image 14 = .ok (.getfield 130, 3) := by decide +kernel
theorem dX11_image_17 : decode cX11_image 17 = .ok (.ireturn, 1) := by decide +kernel
theorem dX11_back_0 : decode cX11_back 0 = .ok (.aload_n 0, 1) := by decide +kernel
theorem dX11_back_1 : decode cX11_back 1 = .ok (.getfield 42, 3) := by decide +kernel
theorem dX11_back_4 : decode cX11_back 4 = .ok (.invokevirtual 289, 3) := by decide +kernel
theorem dX11_back_7 : decode cX11_back 7 = .ok (.ifCond .eq 16, 3) := by decide +kernel
theorem dX11_back_10 : decode cX11_back 10 = .ok (.aload_n 0, 1) := by decide +kernel
theorem dX11_back_11 : decode cX11_back 11 = .ok (.getfield 42, 3) := by decide +kernel
theorem dX11_back_14 : decode cX11_back 14 = .ok (.getfield 126, 3) := by decide +kernel
theorem dX11_back_17 : decode cX11_back 17 = .ok (.getfield 130, 3) := by decide +kernel
theorem dX11_back_20 : decode cX11_back 20 = .ok (.goto 5, 3) := by decide +kernel
theorem dX11_back_23 : decode cX11_back 23 = .ok (.bipush (-5), 2) := by decide +kernel
theorem dX11_back_25 : decode cX11_back 25 = .ok (.ireturn, 1) := by decide +kernel
theorem dX11_undo_0 : decode cX11_undo 0 = .ok (.aload_n 0, 1) := by decide +kernel
theorem dX11_undo_1 : decode cX11_undo 1 = .ok (.getfield 19, 3) := by decide +kernel
theorem dX11_undo_4 : decode cX11_undo 4 = .ok (.aload_n 0, 1) := by decide +kernel
theorem dX11_undo_5 : decode cX11_undo 5 = .ok (.getfield 10, 3) := by decide +kernel
theorem dX11_undo_8 : decode cX11_undo 8 = .ok (.invokevirtual 293, 3) := by decide +kernel
theorem dX11_undo_11 : decode cX11_undo 11 = .ok (.ifCond .eq 13, 3) := by decide +kernel
theorem dX11_undo_14 : decode cX11_undo 14 = .ok (.aload_n 0, 1) := by decide +kernel
theorem dX11_undo_15 : decode cX11_undo 15 = .ok (.getfield 19, 3) := by decide +kernel
theorem dX11_undo_18 : decode cX11_undo 18 = .ok (.getfield 297, 3) := by decide +kernel
theorem dX11_undo_21 : decode cX11_undo 21 = .ok (.goto 5, 3) := by decide +kernel
theorem dX11_undo_24 : decode cX11_undo 24 = .ok (.bipush (-5), 2) := by decide +kernel
theorem dX11_undo_26 : decode cX11_undo 26 = .ok (.ireturn, 1) := by decide +kernel
theorem dX11_redo_0 : decode cX11_redo 0 = .ok (.aload_n 0, 1) := by decide +kernel
theorem dX11_redo_1 : decode cX11_redo 1 = .ok (.getfield 19, 3) := by decide +kernel
theorem dX11_redo_4 : decode cX11_redo 4 = .ok (.aload_n 0, 1) := by decide +kernel
theorem dX11_redo_5 : decode cX11_redo 5 = .ok (.getfield 10, 3) := by decide +kernel
theorem dX11_redo_8 : decode cX11_redo 8 = .ok (.invokevirtual 300, 3) := by decide +kernel
theorem dX11_redo_11 : decode cX11_redo 11 = .ok (.ifCond .eq 21, 3) := by decide +kernel
theorem dX11_redo_14 : decode cX11_redo 14 = .ok (.aload_n 0, 1) := by decide +kernel
theorem dX11_redo_15 : decode cX11_redo 15 = .ok (.getfield 19, 3) := by decide +kernel
theorem dX11_redo_18 : decode cX11_redo 18 = .ok (.getfield 303, 3) := by decide +kernel
theorem dX11_redo_21 : decode cX11_redo 21 = .ok (.aload_n 0, 1) := by decide +kernel
theorem dX11_redo_22 : decode cX11_redo 22 = .ok (.getfield 19, 3) := by decide +kernel
theorem dX11_redo_25 : decode cX11_redo 25 = .ok (.getfield 297, 3) := by decide +kernel
theorem dX11_redo_28 : decode cX11_redo 28 = .ok (.isub, 1) := by decide +kernel
theorem dX11_redo_29 : decode cX11_redo 29 = .ok (.goto 5, 3) := by decide +kernel
theorem dX11_redo_32 : decode cX11_redo 32 = .ok (.bipush (-5), 2) := by decide +kernel
theorem dX11_redo_34 : decode cX11_redo 34 = .ok (.ireturn, 1) := by decide +kernel
theorem dX11_body_0 : decode cX11_body 0 = .ok (.iload_n 1, 1) := by decide +kernel
theorem dX11_body_1 : decode cX11_body 1 = .ok (.invokestatic 306, 3) := by decide +kernel
theorem dX11_body_4 : decode cX11_body 4 = .ok (.ifCond .ne 5, 3) := by decide +kernel
theorem dX11_body_7 : decode cX11_body 7 = .ok (.iconst (-1), 1) := by decide +kernel
theorem dX11_body_8 : decode cX11_body 8 = .ok (.ireturn, 1) := by decide +kernel
theorem dX11_body_9 : decode cX11_body 9 = .ok (.aload_n 0, 1) := by decide +kernel
theorem dX11_body_10 : decode cX11_body 10 = .ok (.getfield 79, 3) := by decide +kernel
theorem dX11_body_13 : decode cX11_body 13 = .ok (.iload_n 1, 1) := by decide +kernel
theorem dX11_body_14 : decode cX11_body 14 = .ok (.invokevirtual 309, 3) := by decide +kernel
theorem dX11_body_17 : decode cX11_body 17 = .ok (.ireturn, 1) := by decide +kernel
theorem dX11_act_0 : decode cX11_act 0 = .ok (.aload_n 0, 1) := by decide +kernel
theorem dX11_act_1 : decode cX11_act 1 = .ok (.getfield 79, 3) := by decide +kernel
theorem dX11_act_4 : decode cX11_act 4 = .ok (.iload_n 1, 1) := by decide +kernel
theorem dX11_act_5 : decode cX11_act 5 = .ok (.iload_n 2, 1) := by decide +kernel
theorem dX11_act_6 : decode cX11_act 6 = .ok (.iload_n 3, 1) := by decide +kernel
theorem dX11_act_7 : decode cX11_act 7 = .ok (.invokevirtual 311, 3) := by decide +kernel
theorem dX11_act_10 : decode cX11_act 10 = .ok (.ireturn, 1) := by decide +kernel
theorem dX11_trace_0 : decode cX11_trace 0 = .ok (.aload_n 0, 1) := by decide +kernel
theorem dX11_trace_1 : decode cX11_trace 1 = .ok (.getfield 79, 3) := by decide +kernel
theorem dX11_trace_4 : decode cX11_trace 4 = .ok (.iload_n 1, 1) := by decide +kernel
theorem dX11_trace_5 : decode cX11_trace 5 = .ok (.invokevirtual 314, 3) := by decide +kernel
theorem dX11_trace_8 : decode cX11_trace 8 = .ok (.ireturn, 1) := by decide +kernel
theorem dX11_keep_0 : decode cX11_keep 0 = .ok (.iload_n 1, 1) := by decide +kernel
theorem dX11_keep_1 : decode cX11_keep 1 = .ok (.invokestatic 95, 3) := by decide +kernel
theorem dX11_keep_4 : decode cX11_keep 4 = .ok (.ifCond .eq 19, 3) := by decide +kernel
theorem dX11_keep_7 : decode cX11_keep 7 = .ok (.iload_n 2, 1) := by decide +kernel
theorem dX11_keep_8 : decode cX11_keep 8 = .ok (.iconst (-1), 1) := by decide +kernel
theorem dX11_keep_9 : decode cX11_keep 9 = .ok (.if_icmp .lt 14, 3) := by decide +kernel
theorem dX11_keep_12 : decode cX11_keep 12 = .ok (.iload_n 2, 1) := by decide +kernel
theorem dX11_keep_13 : decode cX11_keep 13 = .ok (.aload_n 0, 1) := by decide +kernel
theorem dX11_keep_14 : decode cX11_keep 14 = .ok (.getfield 79, 3) := by decide +kernel
theorem dX11_keep_17 : decode cX11_keep 17 = .ok (.getfield 317, 3) := by decide +kernel
theorem dX11_keep_20 : decode cX11_keep 20 = .ok (.if_icmp .lt 5, 3) := by decide +kernel
theorem dX11_keep_23 : decode cX11_keep 23 = .ok (.iconst (-1), 1) := by decide +kernel
theorem dX11_keep_24 : decode cX11_keep 24 = .ok (.ireturn, 1) := by decide +kernel
theorem dX11_keep_25 : decode cX11_keep 25 = .ok (.aload_n 0, 1) := by decide +kernel
theorem dX11_keep_26 : decode cX11_keep 26 = .ok (.getfield 72, 3) := by decide +kernel
theorem dX11_keep_29 : decode cX11_keep 29 = .ok (.iload_n 1, 1) := by decide +kernel
theorem dX11_keep_30 : decode cX11_keep 30 = .ok (.iload_n 2, 1) := by decide +kernel
theorem dX11_keep_31 : decode cX11_keep 31 = .ok (.invokevirtual 320, 3) := by decide +kernel
theorem dX11_keep_34 : decode cX11_keep 34 = .ok (.iconst 1, 1) := by decide +kernel
theorem dX11_keep_35 : decode cX11_keep 35 = .ok (.ireturn, 1) := by decide +kernel
theorem dX11_row_0 : decode cX11_row 0 = .ok (.iload_n 1, 1) := by decide +kernel
theorem dX11_row_1 : decode cX11_row 1 = .ok (.invokestatic 95, 3) := by decide +kernel
theorem dX11_row_4 : decode cX11_row 4 = .ok (.ifCond .eq 18, 3) := by decide +kernel
theorem dX11_row_7 : decode cX11_row 7 = .ok (.iload_n 2, 1) := by decide +kernel
theorem dX11_row_8 : decode cX11_row 8 = .ok (.ifCond .lt 14, 3) := by decide +kernel
theorem dX11_row_11 : decode cX11_row 11 = .ok (.iload_n 2, 1) := by decide +kernel
theorem dX11_row_12 : decode cX11_row 12 = .ok (.iconst 4, 1) := by decide +kernel
theorem dX11_row_13 : decode cX11_row 13 = .ok (.if_icmp .gt 9, 3) := by decide +kernel
theorem dX11_row_16 : decode cX11_row 16 = .ok (.iload_n 3, 1) := by decide +kernel
theorem dX11_row_17 : decode cX11_row 17 = .ok (.bipush 60, 2) := by decide +kernel
theorem dX11_row_19 : decode cX11_row 19 = .ok (.if_icmp .le 5, 3) := by decide +kernel
theorem dX11_row_22 : decode cX11_row 22 = .ok (.iconst (-1), 1) := by decide +kernel
theorem dX11_row_23 : decode cX11_row 23 = .ok (.ireturn, 1) := by decide +kernel
theorem dX11_row_24 : decode cX11_row 24 = .ok (.iload_n 3, 1) := by decide +kernel
theorem dX11_row_25 : decode cX11_row 25 = .ok (.ifCond .ge 6, 3) := by decide +kernel
theorem dX11_row_28 : decode cX11_row 28 = .ok (.bipush (-14), 2) := by decide +kernel
theorem dX11_row_30 : decode cX11_row 30 = .ok (.ireturn, 1) := by decide +kernel
theorem dX11_row_31 : decode cX11_row 31 = .ok (.aload_n 0, 1) := by decide +kernel
theorem dX11_row_32 : decode cX11_row 32 = .ok (.getfield 72, 3) := by decide +kernel
theorem dX11_row_35 : decode cX11_row 35 = .ok (.iload_n 1, 1) := by decide +kernel
theorem dX11_row_36 : decode cX11_row 36 = .ok (.iload_n 2, 1) := by decide +kernel
theorem dX11_row_37 : decode cX11_row 37 = .ok (.iload_n 3, 1) := by decide +kernel
theorem dX11_row_38 : decode cX11_row 38 = .ok (.invokevirtual 323, 3) := by decide +kernel
theorem dX11_row_41 : decode cX11_row 41 = .ok (.iconst 1, 1) := by decide +kernel
theorem dX11_row_42 : decode cX11_row 42 = .ok (.ireturn, 1) := by decide +kernel
theorem dX11_put_0 : decode cX11_put 0 = .ok (.iload_n 1, 1) := by decide +kernel
theorem dX11_put_1 : decode cX11_put 1 = .ok (.invokestatic 95, 3) := by decide +kernel
theorem dX11_put_4 : decode cX11_put 4 = .ok (.ifCond .ne 5, 3) := by decide +kernel
theorem dX11_put_7 : decode cX11_put 7 = .ok (.iconst (-1), 1) := by decide +kernel
theorem dX11_put_8 : decode cX11_put 8 = .ok (.ireturn, 1) := by decide +kernel
theorem dX11_put_9 : decode cX11_put 9 = .ok (.aload_n 0, 1) := by decide +kernel
theorem dX11_put_10 : decode cX11_put 10 = .ok (.getfield 72, 3) := by decide +kernel
theorem dX11_put_13 : decode cX11_put 13 = .ok (.iload_n 1, 1) := by decide +kernel
theorem dX11_put_14 : decode cX11_put 14 = .ok (.iload_n 2, 1) := by decide +kernel
theorem dX11_put_15 : decode cX11_put 15 = .ok (.invokevirtual 326, 3) := by decide +kernel
theorem dX11_put_18 : decode cX11_put 18 = .ok (.istore 5, 2) := by decide +kernel
theorem dX11_put_20 : decode cX11_put 20 = .ok (.iload 5, 2) := by decide +kernel
theorem dX11_put_22 : decode cX11_put 22 = .ok (.ifCond .eq 6, 3) := by decide +kernel
theorem dX11_put_25 : decode cX11_put 25 = .ok (.iload 5, 2) := by decide +kernel
theorem dX11_put_27 : decode cX11_put 27 = .ok (.ireturn, 1) := by decide +kernel
theorem dX11_put_28 : decode cX11_put 28 = .ok (.aload_n 0, 1) := by decide +kernel
theorem dX11_put_29 : decode cX11_put 29 = .ok (.getfield 72, 3) := by decide +kernel
theorem dX11_put_32 : decode cX11_put 32 = .ok (.iload_n 1, 1) := by decide +kernel
theorem dX11_put_33 : decode cX11_put 33 = .ok (.iload_n 2, 1) := by decide +kernel
theorem dX11_put_34 : decode cX11_put 34 = .ok (.lload_n 3, 1) := by decide +kernel
theorem dX11_put_35 : decode cX11_put 35 = .ok (.invokevirtual 329, 3) := by decide +kernel
theorem dX11_put_38 : decode cX11_put 38 = .ok (.iconst 1, 1) := by decide +kernel
theorem dX11_put_39 : decode cX11_put 39 = .ok (.ireturn, 1) := by decide +kernel
theorem dX11_element_0 : decode cX11_element 0 = .ok (.iload_n 1, 1) := by decide +kernel
theorem dX11_element_1 : decode cX11_element 1 = .ok (.invokestatic 95, 3) := by decide +kernel
theorem dX11_element_4 : decode cX11_element 4 = .ok (.ifCond .eq 15, 3) := by decide +kernel
theorem dX11_element_7 : decode cX11_element 7 = .ok (.aload_n 0, 1) := by decide +kernel
theorem dX11_element_8 : decode cX11_element 8 = .ok (.getfield 72, 3) := by decide +kernel
theorem dX11_element_11 : decode cX11_element 11 = .ok (.iload_n 1, 1) := by decide +kernel
theorem dX11_element_12 : decode cX11_element 12 = .ok (.iload_n 2, 1) := by decide +kernel
theorem dX11_element_13 : decode cX11_element 13 = .ok (.invokevirtual 326, 3) := by decide +kernel
theorem dX11_element_16 : decode cX11_element 16 = .ok (.ifCond .eq 7, 3) := by decide +kernel
theorem dX11_element_19 : decode cX11_element 19 = .ok (.ldc2_w 231, 3) := by decide +kernel
theorem dX11_element_22 : decode cX11_element 22 = .ok (.lreturn, 1) := by decide +kernel
theorem dX11_element_23 : decode cX11_element 23 = .ok (.aload_n 0, 1) := by decide +kernel
theorem dX11_element_24 : decode cX11_element 24 = .ok (.getfield 72, 3) := by decide +kernel
theorem dX11_element_27 : decode cX11_element 27 = .ok (.iload_n 1, 1) := by decide +kernel
theorem dX11_element_28 : decode cX11_element 28 = .ok (.iload_n 2, 1) := by decide +kernel
theorem dX11_element_29 : decode cX11_element 29 = .ok (.invokevirtual 332, 3) := by decide +kernel
theorem dX11_element_32 : decode cX11_element 32 = .ok (.lreturn, 1) := by decide +kernel
theorem dX11_shift_0 : decode cX11_shift 0 = .ok (.iload_n 1, 1) := by decide +kernel
theorem dX11_shift_1 : decode cX11_shift 1 = .ok (.invokestatic 95, 3) := by decide +kernel
theorem dX11_shift_4 : decode cX11_shift 4 = .ok (.ifCond .eq 10, 3) := by decide +kernel
theorem dX11_shift_7 : decode cX11_shift 7 = .ok (.iload_n 3, 1) := by decide +kernel
theorem dX11_shift_8 : decode cX11_shift 8 = .ok (.invokestatic 95, 3) := by decide +kernel
theorem dX11_shift_11 : decode cX11_shift 11 = .ok (.ifCond .ne 5, 3) := by decide +kernel
theorem dX11_shift_14 : decode cX11_shift 14 = .ok (.iconst (-1), 1) := by decide +kernel
theorem dX11_shift_15 : decode cX11_shift 15 = .ok (.ireturn, 1) := by decide +kernel
theorem dX11_shift_16 : decode cX11_shift 16 = .ok (.aload_n 0, 1) := by decide +kernel
theorem dX11_shift_17 : decode cX11_shift 17 = .ok (.getfield 72, 3) := by decide +kernel
theorem dX11_shift_20 : decode cX11_shift 20 = .ok (.iload_n 1, 1) := by decide +kernel
theorem dX11_shift_21 : decode cX11_shift 21 = .ok (.invokevirtual 99, 3) := by decide +kernel
theorem dX11_shift_24 : decode cX11_shift 24 = .ok (.ifCond .ne 14, 3) := by decide +kernel
theorem dX11_shift_27 : decode cX11_shift 27 = .ok (.aload_n 0, 1) := by decide +kernel
theorem dX11_shift_28 : decode cX11_shift 28 = .ok (.getfield 72, 3) := by decide +kernel
theorem dX11_shift_31 : decode cX11_shift 31 = .ok (.iload_n 3, 1) := by decide +kernel
theorem dX11_shift_32 : decode cX11_shift 32 = .ok (.invokevirtual 99, 3) := by decide +kernel
theorem dX11_shift_35 : decode cX11_shift 35 = .ok (.ifCond .eq 6, 3) := by decide +kernel
theorem dX11_shift_38 : decode cX11_shift 38 = .ok (.bipush (-11), 2) := by decide +kernel
theorem dX11_shift_40 : decode cX11_shift 40 = .ok (.ireturn, 1) := by decide +kernel
theorem dX11_shift_41 : decode cX11_shift 41 = .ok (.aload_n 0, 1) := by decide +kernel
theorem dX11_shift_42 : decode cX11_shift 42 = .ok (.getfield 72, 3) := by decide +kernel
theorem dX11_shift_45 : decode cX11_shift 45 = .ok (.iload_n 1, 1) := by decide +kernel
theorem dX11_shift_46 : decode cX11_shift 46 = .ok (.iload_n 3, 1) := by decide +kernel
theorem dX11_shift_47 : decode cX11_shift 47 = .ok (.invokevirtual 335, 3) := by decide +kernel
theorem dX11_shift_50 : decode cX11_shift 50 = .ok (.ifCond .ne 6, 3) := by decide +kernel
theorem dX11_shift_53 : decode cX11_shift 53 = .ok (.bipush (-12), 2) := by decide +kernel
theorem dX11_shift_55 : decode cX11_shift 55 = .ok (.ireturn, 1) := by decide +kernel
theorem dX11_shift_56 : decode cX11_shift 56 = .ok (.aload_n 0, 1) := by decide +kernel
theorem dX11_shift_57 : decode cX11_shift 57 = .ok (.getfield 72, 3) := by decide +kernel
theorem dX11_shift_60 : decode cX11_shift 60 = .ok (.iload_n 1, 1) := by decide +kernel
theorem dX11_shift_61 : decode cX11_shift 61 = .ok (.iload_n 2, 1) := by decide +kernel
theorem dX11_shift_62 : decode cX11_shift 62 = .ok (.iload 5, 2) := by decide +kernel
theorem dX11_shift_64 : decode cX11_shift 64 = .ok (.invokevirtual 105, 3) := by decide +kernel
theorem dX11_shift_67 : decode cX11_shift 67 = .ok (.ifCond .eq 18, 3) := by decide +kernel
theorem dX11_shift_70 : decode cX11_shift 70 = .ok (.aload_n 0, 1) := by decide +kernel
theorem dX11_shift_71 : decode cX11_shift 71 = .ok (.getfield 72, 3) := by decide +kernel
theorem dX11_shift_74 : decode cX11_shift 74 = .ok (.iload_n 3, 1) := by decide +kernel
theorem dX11_shift_75 : decode cX11_shift 75 = .ok (.iload 4, 2) := by decide +kernel
theorem dX11_shift_77 : decode cX11_shift 77 = .ok (.iload 5, 2) := by decide +kernel
theorem dX11_shift_79 : decode cX11_shift 79 = .ok (.invokevirtual 105, 3) := by decide +kernel
theorem dX11_shift_82 : decode cX11_shift 82 = .ok (.ifCond .ne 6, 3) := by decide +kernel
theorem dX11_shift_85 : decode cX11_shift 85 = .ok (.bipush (-13), 2) := by decide +kernel
theorem dX11_shift_87 : decode cX11_shift 87 = .ok (.ireturn, 1) := by decide +kernel
theorem dX11_shift_88 : decode cX11_shift 88 = .ok (.aload_n 0, 1) := by decide +kernel
theorem dX11_shift_89 : decode cX11_shift 89 = .ok (.getfield 72, 3) := by decide +kernel
theorem dX11_shift_92 : decode cX11_shift 92 = .ok (.iload_n 1, 1) := by decide +kernel
theorem dX11_shift_93 : decode cX11_shift 93 = .ok (.iload_n 2, 1) := by decide +kernel
theorem dX11_shift_94 : decode cX11_shift 94 = .ok (.iload_n 3, 1) := by decide +kernel
theorem dX11_shift_95 : decode cX11_shift 95 = .ok (.iload 4, 2) := by decide +kernel
theorem dX11_shift_97 : decode cX11_shift 97 = .ok (.iload 5, 2) := by decide +kernel
theorem dX11_shift_99 : decode cX11_shift 99 = .ok (.invokevirtual 338, 3) := by decide +kernel
theorem dX11_shift_102 : decode cX11_shift 102 = .ok (.iload 5, 2) := by decide +kernel
theorem dX11_shift_104 : decode cX11_shift 104 = .ok (.ireturn, 1) := by decide +kernel
theorem dX11_taken_0 : decode cX11_taken 0 = .ok (.iload_n 1, 1) := by decide +kernel
theorem dX11_taken_1 : decode cX11_taken 1 = .ok (.invokestatic 95, 3) := by decide +kernel
theorem dX11_taken_4 : decode cX11_taken 4 = .ok (.ifCond .eq 10, 3) := by decide +kernel
theorem dX11_taken_7 : decode cX11_taken 7 = .ok (.iload_n 2, 1) := by decide +kernel
theorem dX11_taken_8 : decode cX11_taken 8 = .ok (.invokestatic 306, 3) := by decide +kernel
theorem dX11_taken_11 : decode cX11_taken 11 = .ok (.ifCond .ne 5, 3) := by decide +kernel
theorem dX11_taken_14 : decode cX11_taken 14 = .ok (.iconst (-1), 1) := by decide +kernel
theorem dX11_taken_15 : decode cX11_taken 15 = .ok (.ireturn, 1) := by decide +kernel
theorem dX11_taken_16 : decode cX11_taken 16 = .ok (.aload_n 0, 1) := by decide +kernel
theorem dX11_taken_17 : decode cX11_taken 17 = .ok (.getfield 72, 3) := by decide +kernel
theorem dX11_taken_20 : decode cX11_taken 20 = .ok (.iload_n 1, 1) := by decide +kernel
theorem dX11_taken_21 : decode cX11_taken 21 = .ok (.invokevirtual 99, 3) := by decide +kernel
theorem dX11_taken_24 : decode cX11_taken 24 = .ok (.ifCond .eq 6, 3) := by decide +kernel
theorem dX11_taken_27 : decode cX11_taken 27 = .ok (.bipush (-11), 2) := by decide +kernel
theorem dX11_taken_29 : decode cX11_taken 29 = .ok (.ireturn, 1) := by decide +kernel
theorem dX11_taken_30 : decode cX11_taken 30 = .ok (.aload_n 0, 1) := by decide +kernel
theorem dX11_taken_31 : decode cX11_taken 31 = .ok (.getfield 79, 3) := by decide +kernel
theorem dX11_taken_34 : decode cX11_taken 34 = .ok (.aload_n 0, 1) := by decide +kernel
theorem dX11_taken_35 : decode cX11_taken 35 = .ok (.getfield 72, 3) := by decide +kernel
theorem dX11_taken_38 : decode cX11_taken 38 = .ok (.iload_n 1, 1) := by decide +kernel
theorem dX11_taken_39 : decode cX11_taken 39 = .ok (.invokevirtual 342, 3) := by decide +kernel
theorem dX11_taken_42 : decode cX11_taken 42 = .ok (.invokevirtual 345, 3) := by decide +kernel
theorem dX11_taken_45 : decode cX11_taken 45 = .ok (.istore_n 3, 1) := by decide +kernel
theorem dX11_taken_46 : decode cX11_taken 46 = .ok (.aload_n 0, 1) := by decide +kernel
theorem dX11_taken_47 : decode cX11_taken 47 = .ok (.getfield 79, 3) := by decide +kernel
theorem dX11_taken_50 : decode cX11_taken 50 = .ok (.iload_n 3, 1) := by decide +kernel
theorem dX11_taken_51 : decode cX11_taken 51 = .ok (.iload_n 2, 1) := by decide +kernel
theorem dX11_taken_52 : decode cX11_taken 52 = .ok (.invokevirtual 348, 3) := by decide +kernel
theorem dX11_taken_55 : decode cX11_taken 55 = .ok (.ifCond .eq 7, 3) := by decide +kernel
theorem dX11_taken_58 : decode cX11_taken 58 = .ok (.iload_n 3, 1) := by decide +kernel
theorem dX11_taken_59 : decode cX11_taken 59 = .ok (.goto 5, 3) := by decide +kernel
theorem dX11_taken_62 : decode cX11_taken 62 = .ok (.bipush (-12), 2) := by decide +kernel
theorem dX11_taken_64 : decode cX11_taken 64 = .ok (.ireturn, 1) := by decide +kernel
theorem dX11_count_0 : decode cX11_count 0 = .ok (.iload_n 1, 1) := by decide +kernel
theorem dX11_count_1 : decode cX11_count 1 = .ok (.tableswitch 90 0 5 #[39, 47, 58, 66, 74, 82], 39) := by decide +kernel
theorem dX11_count_40 : decode cX11_count 40 = .ok (.aload_n 0, 1) := by decide +kernel
theorem dX11_count_41 : decode cX11_count 41 = .ok (.getfield 10, 3) := by decide +kernel
theorem dX11_count_44 : decode cX11_count 44 = .ok (.getfield 87, 3) := by decide +kernel
theorem dX11_count_47 : decode cX11_count 47 = .ok (.ireturn, 1) := by decide +kernel
theorem dX11_count_48 : decode cX11_count 48 = .ok (.aload_n 0, 1) := by decide +kernel
theorem dX11_count_49 : decode cX11_count 49 = .ok (.getfield 42, 3) := by decide +kernel
theorem dX11_count_52 : decode cX11_count 52 = .ok (.getfield 126, 3) := by decide +kernel
theorem dX11_count_55 : decode cX11_count 55 = .ok (.invokevirtual 351, 3) := by decide +kernel
theorem dX11_count_58 : decode cX11_count 58 = .ok (.ireturn, 1) := by decide +kernel
theorem dX11_count_59 : decode cX11_count 59 = .ok (.aload_n 0, 1) := by decide +kernel
theorem dX11_count_60 : decode cX11_count 60 = .ok (.getfield 26, 3) := by decide +kernel
theorem dX11_count_63 : decode cX11_count 63 = .ok (.getfield 153, 3) := by decide +kernel
theorem dX11_count_66 : decode cX11_count 66 = .ok (.ireturn, 1) := by decide +kernel
theorem dX11_count_67 : decode cX11_count 67 = .ok (.aload_n 0, 1) := by decide +kernel
theorem dX11_count_68 : decode cX11_count 68 = .ok (.getfield 19, 3) := by decide +kernel
theorem dX11_count_71 : decode cX11_count 71 = .ok (.getfield 297, 3) := by decide +kernel
theorem dX11_count_74 : decode cX11_count 74 = .ok (.ireturn, 1) := by decide +kernel
theorem dX11_count_75 : decode cX11_count 75 = .ok (.aload_n 0, 1) := by decide +kernel
theorem dX11_count_76 : decode cX11_count 76 = .ok (.getfield 79, 3) := by decide +kernel
theorem dX11_count_79 : decode cX11_count 79 = .ok (.getfield 317, 3) := by decide +kernel
theorem dX11_count_82 : decode cX11_count 82 = .ok (.ireturn, 1) := by decide +kernel
theorem dX11_count_83 : decode cX11_count 83 = .ok (.aload_n 0, 1) := by decide +kernel
theorem dX11_count_84 : decode cX11_count 84 = .ok (.getfield 79, 3) := by decide +kernel
theorem dX11_count_87 : decode cX11_count 87 = .ok (.getfield 354, 3) := by decide +kernel
theorem dX11_count_90 : decode cX11_count 90 = .ok (.ireturn, 1) := by decide +kernel
theorem dX11_count_91 : decode cX11_count 91 = .ok (.iconst (-1), 1) := by decide +kernel
theorem dX11_count_92 : decode cX11_count 92 = .ok (.ireturn, 1) := by decide +kernel
theorem dX11_isShelf_0 : decode cX11_isShelf 0 = .ok (.iload_n 0, 1) := by decide +kernel
theorem dX11_isShelf_1 : decode cX11_isShelf 1 = .ok (.ifCond .lt 13, 3) := by decide +kernel
theorem dX11_isShelf_4 : decode cX11_isShelf 4 = .ok (.iload_n 0, 1) := by decide +kernel
theorem dX11_isShelf_5 : decode cX11_isShelf 5 = .ok (.bipush 6, 2) := by decide +kernel
theorem dX11_isShelf_7 : decode cX11_isShelf 7 = .ok (.if_icmp .ge 7, 3) := by decide +kernel
theorem dX11_isShelf_10 : decode cX11_isShelf 10 = .ok (.iconst 1, 1) := by decide +kernel
theorem dX11_isShelf_11 : decode cX11_isShelf 11 = .ok (.goto 4, 3) := by decide +kernel
theorem dX11_isShelf_14 : decode cX11_isShelf 14 = .ok (.iconst 0, 1) := by decide +kernel
theorem dX11_isShelf_15 : decode cX11_isShelf 15 = .ok (.ireturn, 1) := by decide +kernel
theorem dX11_isWay_0 : decode cX11_isWay 0 = .ok (.iload_n 0, 1) := by decide +kernel
theorem dX11_isWay_1 : decode cX11_isWay 1 = .ok (.ifCond .lt 12, 3) := by decide +kernel
theorem dX11_isWay_4 : decode cX11_isWay 4 = .ok (.iload_n 0, 1) := by decide +kernel
theorem dX11_isWay_5 : decode cX11_isWay 5 = .ok (.iconst 3, 1) := by decide +kernel
theorem dX11_isWay_6 : decode cX11_isWay 6 = .ok (.if_icmp .ge 7, 3) := by decide +kernel
theorem dX11_isWay_9 : decode cX11_isWay 9 = .ok (.iconst 1, 1) := by decide +kernel
theorem dX11_isWay_10 : decode cX11_isWay 10 = .ok (.goto 4, 3) := by decide +kernel
theorem dX11_isWay_13 : decode cX11_isWay 13 = .ok (.iconst 0, 1) := by decide +kernel
theorem dX11_isWay_14 : decode cX11_isWay 14 = .ok (.ireturn, 1) := by decide +kernel
theorem dX11_isSquare_0 : decode cX11_isSquare 0 = .ok (.iload_n 0, 1) := by decide +kernel
theorem dX11_isSquare_1 : decode cX11_isSquare 1 = .ok (.ifCond .lt 13, 3) := by decide +kernel
theorem dX11_isSquare_4 : decode cX11_isSquare 4 = .ok (.iload_n 0, 1) := by decide +kernel
theorem dX11_isSquare_5 : decode cX11_isSquare 5 = .ok (.bipush 24, 2) := by decide +kernel
theorem dX11_isSquare_7 : decode cX11_isSquare 7 = .ok (.if_icmp .ge 7, 3) := by decide +kernel
theorem dX11_isSquare_10 : decode cX11_isSquare 10 = .ok (.iconst 1, 1) := by decide +kernel
theorem dX11_isSquare_11 : decode cX11_isSquare 11 = .ok (.goto 4, 3) := by decide +kernel
theorem dX11_isSquare_14 : decode cX11_isSquare 14 = .ok (.iconst 0, 1) := by decide +kernel
theorem dX11_isSquare_15 : decode cX11_isSquare 15 = .ok (.ireturn, 1) := by decide +kernel
theorem dX11_isKind_0 : decode cX11_isKind 0 = .ok (.iload_n 0, 1) := by decide +kernel
theorem dX11_isKind_1 : decode cX11_isKind 1 = .ok (.ifCond .lt 13, 3) := by decide +kernel
theorem dX11_isKind_4 : decode cX11_isKind 4 = .ok (.iload_n 0, 1) := by decide +kernel
theorem dX11_isKind_5 : decode cX11_isKind 5 = .ok (.bipush 8, 2) := by decide +kernel
theorem dX11_isKind_7 : decode cX11_isKind 7 = .ok (.if_icmp .ge 7, 3) := by decide +kernel
theorem dX11_isKind_10 : decode cX11_isKind 10 = .ok (.iconst 1, 1) := by decide +kernel
theorem dX11_isKind_11 : decode cX11_isKind 11 = .ok (.goto 4, 3) := by decide +kernel
theorem dX11_isKind_14 : decode cX11_isKind 14 = .ok (.iconst 0, 1) := by decide +kernel
theorem dX11_isKind_15 : decode cX11_isKind 15 = .ok (.ireturn, 1) := by decide +kernel
theorem dX11_isGoer_0 : decode cX11_isGoer 0 = .ok (.iload_n 1, 1) := by decide +kernel
theorem dX11_isGoer_1 : decode cX11_isGoer 1 = .ok (.ifCond .lt 18, 3) := by decide +kernel
theorem dX11_isGoer_4 : decode cX11_isGoer 4 = .ok (.iload_n 1, 1) := by decide +kernel
theorem dX11_isGoer_5 : decode cX11_isGoer 5 = .ok (.aload_n 0, 1) := by decide +kernel
theorem dX11_isGoer_6 : decode cX11_isGoer 6 = .ok (.getfield 10, 3) := by decide +kernel
theorem dX11_isGoer_9 : decode cX11_isGoer 9 = .ok (.getfield 87, 3) := by decide +kernel
theorem dX11_isGoer_12 : decode cX11_isGoer 12 = .ok (.if_icmp .ge 7, 3) := by decide +kernel
theorem dX11_isGoer_15 : decode cX11_isGoer 15 = .ok (.iconst 1, 1) := by decide +kernel
theorem dX11_isGoer_16 : decode cX11_isGoer 16 = .ok (.goto 4, 3) := by decide +kernel
theorem dX11_isGoer_19 : decode cX11_isGoer 19 = .ok (.iconst 0, 1) := by decide +kernel
theorem dX11_isGoer_20 : decode cX11_isGoer 20 = .ok (.ireturn, 1) := by decide +kernel
theorem dX11_comes_0 : decode cX11_comes 0 = .ok (.aload_n 0, 1) := by decide +kernel
theorem dX11_comes_1 : decode cX11_comes 1 = .ok (.getfield 72, 3) := by decide +kernel
theorem dX11_comes_4 : decode cX11_comes 4 = .ok (.iload_n 1, 1) := by decide +kernel
theorem dX11_comes_5 : decode cX11_comes 5 = .ok (.iload_n 2, 1) := by decide +kernel
theorem dX11_comes_6 : decode cX11_comes 6 = .ok (.invokevirtual 357, 3) := by decide +kernel
theorem dX11_comes_9 : decode cX11_comes 9 = .ok (.istore_n 3, 1) := by decide +kernel
theorem dX11_comes_10 : decode cX11_comes 10 = .ok (.aload_n 0, 1) := by decide +kernel
theorem dX11_comes_11 : decode cX11_comes 11 = .ok (.getfield 72, 3) := by decide +kernel
theorem dX11_comes_14 : decode cX11_comes 14 = .ok (.iload_n 1, 1) := by decide +kernel
theorem dX11_comes_15 : decode cX11_comes 15 = .ok (.iload_n 2, 1) := by decide +kernel
theorem dX11_comes_16 : decode cX11_comes 16 = .ok (.iconst 1, 1) := by decide +kernel
theorem dX11_comes_17 : decode cX11_comes 17 = .ok (.iadd, 1) := by decide +kernel
theorem dX11_comes_18 : decode cX11_comes 18 = .ok (.invokevirtual 357, 3) := by decide +kernel
theorem dX11_comes_21 : decode cX11_comes 21 = .ok (.istore 4, 2) := by decide +kernel
theorem dX11_comes_23 : decode cX11_comes 23 = .ok (.aload_n 0, 1) := by decide +kernel
theorem dX11_comes_24 : decode cX11_comes 24 = .ok (.getfield 72, 3) := by decide +kernel
theorem dX11_comes_27 : decode cX11_comes 27 = .ok (.iload_n 1, 1) := by decide +kernel
theorem dX11_comes_28 : decode cX11_comes 28 = .ok (.iload_n 2, 1) := by decide +kernel
theorem dX11_comes_29 : decode cX11_comes 29 = .ok (.iconst 2, 1) := by decide +kernel
theorem dX11_comes_30 : decode cX11_comes 30 = .ok (.iadd, 1) := by decide +kernel
theorem dX11_comes_31 : decode cX11_comes 31 = .ok (.invokevirtual 357, 3) := by decide +kernel
theorem dX11_comes_34 : decode cX11_comes 34 = .ok (.istore 5, 2) := by decide +kernel
theorem dX11_comes_36 : decode cX11_comes 36 = .ok (.aload_n 0, 1) := by decide +kernel
theorem dX11_comes_37 : decode cX11_comes 37 = .ok (.getfield 10, 3) := by decide +kernel
theorem dX11_comes_40 : decode cX11_comes 40 = .ok (.iconst 4, 1) := by decide +kernel
theorem dX11_comes_41 : decode cX11_comes 41 = .ok (.iload_n 3, 1) := by decide +kernel
theorem dX11_comes_42 : decode cX11_comes 42 = .ok (.invokevirtual 83, 3) := by decide +kernel
theorem dX11_comes_45 : decode cX11_comes 45 = .ok (.ifCond .eq 31, 3) := by decide +kernel
theorem dX11_comes_48 : decode cX11_comes 48 = .ok (.aload_n 0, 1) := by decide +kernel
theorem dX11_comes_49 : decode cX11_comes 49 = .ok (.getfield 10, 3) := by decide +kernel
theorem dX11_comes_52 : decode cX11_comes 52 = .ok (.bipush 6, 2) := by decide +kernel
theorem dX11_comes_54 : decode cX11_comes 54 = .ok (.iload 4, 2) := by decide +kernel
theorem dX11_comes_56 : decode cX11_comes 56 = .ok (.invokevirtual 83, 3) := by decide +kernel
theorem dX11_comes_59 : decode cX11_comes 59 = .ok (.ifCond .eq 17, 3) := by decide +kernel
theorem dX11_comes_62 : decode cX11_comes 62 = .ok (.aload_n 0, 1) := by decide +kernel
theorem dX11_comes_63 : decode cX11_comes 63 = .ok (.getfield 10, 3) := by decide +kernel
theorem dX11_comes_66 : decode cX11_comes 66 = .ok (.bipush 7, 2) := by decide +kernel
theorem dX11_comes_68 : decode cX11_comes 68 = .ok (.iload 5, 2) := by decide +kernel
theorem dX11_comes_70 : decode cX11_comes 70 = .ok (.invokevirtual 83, 3) := by decide +kernel
theorem dX11_comes_73 : decode cX11_comes 73 = .ok (.ifCond .ne 5, 3) := by decide +kernel
theorem dX11_comes_76 : decode cX11_comes 76 = .ok (.iconst 0, 1) := by decide +kernel
theorem dX11_comes_77 : decode cX11_comes 77 = .ok (.ireturn, 1) := by decide +kernel
theorem dX11_comes_78 : decode cX11_comes 78 = .ok (.aload_n 0, 1) := by decide +kernel
theorem dX11_comes_79 : decode cX11_comes 79 = .ok (.getfield 10, 3) := by decide +kernel
theorem dX11_comes_82 : decode cX11_comes 82 = .ok (.iload_n 3, 1) := by decide +kernel
theorem dX11_comes_83 : decode cX11_comes 83 = .ok (.iload 4, 2) := by decide +kernel
theorem dX11_comes_85 : decode cX11_comes 85 = .ok (.iload 5, 2) := by decide +kernel
theorem dX11_comes_87 : decode cX11_comes 87 = .ok (.invokevirtual 91, 3) := by decide +kernel
theorem dX11_comes_90 : decode cX11_comes 90 = .ok (.ifCond .lt 7, 3) := by decide +kernel
theorem dX11_comes_93 : decode cX11_comes 93 = .ok (.iconst 1, 1) := by decide +kernel
theorem dX11_comes_94 : decode cX11_comes 94 = .ok (.goto 4, 3) := by decide +kernel
theorem dX11_comes_97 : decode cX11_comes 97 = .ok (.iconst 0, 1) := by decide +kernel
theorem dX11_comes_98 : decode cX11_comes 98 = .ok (.ireturn, 1) := by decide +kernel
theorem dX11_runOrder_0 : decode cX11_runOrder 0 = .ok (.aload_n 0, 1) := by decide +kernel
theorem dX11_runOrder_1 : decode cX11_runOrder 1 = .ok (.getfield 51, 3) := by decide +kernel
theorem dX11_runOrder_4 : decode cX11_runOrder 4 = .ok (.aload_n 0, 1) := by decide +kernel
theorem dX11_runOrder_5 : decode cX11_runOrder 5 = .ok (.getfield 72, 3) := by decide +kernel
theorem dX11_runOrder_8 : decode cX11_runOrder 8 = .ok (.iload_n 1, 1) := by decide +kernel
theorem dX11_runOrder_9 : decode cX11_runOrder 9 = .ok (.bipush 10, 2) := by decide +kernel
theorem dX11_runOrder_11 : decode cX11_runOrder 11 = .ok (.invokevirtual 187, 3) := by decide +kernel
theorem dX11_runOrder_14 : decode cX11_runOrder 14 = .ok (.aload_n 0, 1) := by decide +kernel
theorem dX11_runOrder_15 : decode cX11_runOrder 15 = .ok (.getfield 35, 3) := by decide +kernel
theorem dX11_runOrder_18 : decode cX11_runOrder 18 = .ok (.aload_n 0, 1) := by decide +kernel
theorem dX11_runOrder_19 : decode cX11_runOrder 19 = .ok (.getfield 51, 3) := by decide +kernel
theorem dX11_runOrder_22 : decode cX11_runOrder 22 = .ok (.getfield 176, 3) := by decide +kernel
theorem dX11_runOrder_25 : decode cX11_runOrder 25 = .ok (.aload_n 0, 1) := by decide +kernel
theorem dX11_runOrder_26 : decode cX11_runOrder 26 = .ok (.getfield 42, 3) := by decide +kernel
theorem dX11_runOrder_29 : decode cX11_runOrder 29 = .ok (.getfield 126, 3) := by decide +kernel
theorem dX11_runOrder_32 : decode cX11_runOrder 32 = .ok (.invokevirtual 194, 3) := by decide +kernel
theorem dX11_runOrder_35 : decode cX11_runOrder 35 = .ok (.aload_n 0, 1) := by decide +kernel
theorem dX11_runOrder_36 : decode cX11_runOrder 36 = .ok (.getfield 51, 3) := by decide +kernel
theorem dX11_runOrder_39 : decode cX11_runOrder 39 = .ok (.iload_n 2, 1) := by decide +kernel
theorem dX11_runOrder_40 : decode cX11_runOrder 40 = .ok (.invokevirtual 217, 3) := by decide +kernel
theorem dX11_runOrder_43 : decode cX11_runOrder 43 = .ok (.return_, 1) := by decide +kernel
theorem dX11_overByRule_0 : decode cX11_overByRule 0 = .ok (.aload_n 0, 1) := by decide +kernel
theorem dX11_overByRule_1 : decode cX11_overByRule 1 = .ok (.getfield 51, 3) := by decide +kernel
theorem dX11_overByRule_4 : decode cX11_overByRule 4 = .ok (.iload_n 2, 1) := by decide +kernel
theorem dX11_overByRule_5 : decode cX11_overByRule 5 = .ok (.invokevirtual 360, 3) := by decide +kernel
theorem dX11_overByRule_8 : decode cX11_overByRule 8 = .ok (.aload_n 0, 1) := by decide +kernel
theorem dX11_overByRule_9 : decode cX11_overByRule 9 = .ok (.getfield 35, 3) := by decide +kernel
theorem dX11_overByRule_12 : decode cX11_overByRule 12 = .ok (.aload_n 0, 1) := by decide +kernel
theorem dX11_overByRule_13 : decode cX11_overByRule 13 = .ok (.getfield 51, 3) := by decide +kernel
theorem dX11_overByRule_16 : decode cX11_overByRule 16 = .ok (.getfield 176, 3) := by decide +kernel
theorem dX11_overByRule_19 : decode cX11_overByRule 19 = .ok (.aload_n 0, 1) := by decide +kernel
theorem dX11_overByRule_20 : decode cX11_overByRule 20 = .ok (.getfield 42, 3) := by decide +kernel
theorem dX11_overByRule_23 : decode cX11_overByRule 23 = .ok (.getfield 126, 3) := by decide +kernel
theorem dX11_overByRule_26 : decode cX11_overByRule 26 = .ok (.invokevirtual 194, 3) := by decide +kernel
theorem dX11_overByRule_29 : decode cX11_overByRule 29 = .ok (.aload_n 0, 1) := by decide +kernel
theorem dX11_overByRule_30 : decode cX11_overByRule 30 = .ok (.getfield 51, 3) := by decide +kernel
theorem dX11_overByRule_33 : decode cX11_overByRule 33 = .ok (.iload_n 1, 1) := by decide +kernel
theorem dX11_overByRule_34 : decode cX11_overByRule 34 = .ok (.invokevirtual 217, 3) := by decide +kernel
theorem dX11_overByRule_37 : decode cX11_overByRule 37 = .ok (.aload_n 0, 1) := by decide +kernel
theorem dX11_overByRule_38 : decode cX11_overByRule 38 = .ok (.getfield 51, 3) := by decide +kernel
theorem dX11_overByRule_41 : decode cX11_overByRule 41 = .ok (.getfield 170, 3) := by decide +kernel
theorem dX11_overByRule_44 : decode cX11_overByRule 44 = .ok (.ireturn, 1) := by decide +kernel
theorem dX11_carried_0 : decode cX11_carried 0 = .ok (.iload 4, 2) := by decide +kernel
theorem dX11_carried_2 : decode cX11_carried 2 = .ok (.iconst 1, 1) := by decide +kernel
theorem dX11_carried_3 : decode cX11_carried 3 = .ok (.if_icmp .ge 5, 3) := by decide +kernel
theorem dX11_carried_6 : decode cX11_carried 6 = .ok (.iconst 0, 1) := by decide +kernel
theorem dX11_carried_7 : decode cX11_carried 7 = .ok (.ireturn, 1) := by decide +kernel
theorem dX11_carried_8 : decode cX11_carried 8 = .ok (.aload_n 0, 1) := by decide +kernel
theorem dX11_carried_9 : decode cX11_carried 9 = .ok (.getfield 35, 3) := by decide +kernel
theorem dX11_carried_12 : decode cX11_carried 12 = .ok (.aload_n 0, 1) := by decide +kernel
theorem dX11_carried_13 : decode cX11_carried 13 = .ok (.getfield 51, 3) := by decide +kernel
theorem dX11_carried_16 : decode cX11_carried 16 = .ok (.getfield 176, 3) := by decide +kernel
theorem dX11_carried_19 : decode cX11_carried 19 = .ok (.aload_n 0, 1) := by decide +kernel
theorem dX11_carried_20 : decode cX11_carried 20 = .ok (.getfield 42, 3) := by decide +kernel
theorem dX11_carried_23 : decode cX11_carried 23 = .ok (.getfield 126, 3) := by decide +kernel
theorem dX11_carried_26 : decode cX11_carried 26 = .ok (.invokevirtual 194, 3) := by decide +kernel
theorem dX11_carried_29 : decode cX11_carried 29 = .ok (.aload_n 0, 1) := by decide +kernel
theorem dX11_carried_30 : decode cX11_carried 30 = .ok (.getfield 51, 3) := by decide +kernel
theorem dX11_carried_33 : decode cX11_carried 33 = .ok (.iload_n 1, 1) := by decide +kernel
theorem dX11_carried_34 : decode cX11_carried 34 = .ok (.iload_n 2, 1) := by decide +kernel
theorem dX11_carried_35 : decode cX11_carried 35 = .ok (.iload_n 3, 1) := by decide +kernel
theorem dX11_carried_36 : decode cX11_carried 36 = .ok (.iload 4, 2) := by decide +kernel
theorem dX11_carried_38 : decode cX11_carried 38 = .ok (.iadd, 1) := by decide +kernel
theorem dX11_carried_39 : decode cX11_carried 39 = .ok (.iconst 1, 1) := by decide +kernel
theorem dX11_carried_40 : decode cX11_carried 40 = .ok (.isub, 1) := by decide +kernel
theorem dX11_carried_41 : decode cX11_carried 41 = .ok (.iload 4, 2) := by decide +kernel
theorem dX11_carried_43 : decode cX11_carried 43 = .ok (.idiv, 1) := by decide +kernel
theorem dX11_carried_44 : decode cX11_carried 44 = .ok (.iload 4, 2) := by decide +kernel
theorem dX11_carried_46 : decode cX11_carried 46 = .ok (.invokevirtual 363, 3) := by decide +kernel
theorem dX11_carried_49 : decode cX11_carried 49 = .ok (.ireturn, 1) := by decide +kernel
theorem dX11_mayHaveGone_0 : decode cX11_mayHaveGone 0 = .ok (.aload_n 0, 1) := by decide +kernel
theorem dX11_mayHaveGone_1 : decode cX11_mayHaveGone 1 = .ok (.getfield 51, 3) := by decide +kernel
theorem dX11_mayHaveGone_4 : decode cX11_mayHaveGone 4 = .ok (.iload_n 3, 1) := by decide +kernel
theorem dX11_mayHaveGone_5 : decode cX11_mayHaveGone 5 = .ok (.invokevirtual 366, 3) := by decide +kernel
theorem dX11_mayHaveGone_8 : decode cX11_mayHaveGone 8 = .ok (.aload_n 0, 1) := by decide +kernel
theorem dX11_mayHaveGone_9 : decode cX11_mayHaveGone 9 = .ok (.getfield 35, 3) := by decide +kernel
theorem dX11_mayHaveGone_12 : decode cX11_mayHaveGone 12 = .ok (.aload_n 0, 1) := by decide +kernel
theorem dX11_mayHaveGone_13 : decode cX11_mayHaveGone 13 = .ok (.getfield 51, 3) := by decide +kernel
theorem dX11_mayHaveGone_16 : decode cX11_mayHaveGone 16 = .ok (.getfield 176, 3) := by decide +kernel
theorem dX11_mayHaveGone_19 : decode cX11_mayHaveGone 19 = .ok (.aload_n 0, 1) := by decide +kernel
theorem dX11_mayHaveGone_20 : decode cX11_mayHaveGone 20 = .ok (.getfield 42, 3) := by decide +kernel
theorem dX11_mayHaveGone_23 : decode cX11_mayHaveGone 23 = .ok (.getfield 126, 3) := by decide +kernel
theorem dX11_mayHaveGone_26 : decode cX11_mayHaveGone 26 = .ok (.invokevirtual 194, 3) := by decide +kernel
theorem dX11_mayHaveGone_29 : decode cX11_mayHaveGone 29 = .ok (.aload_n 0, 1) := by decide +kernel
theorem dX11_mayHaveGone_30 : decode cX11_mayHaveGone 30 = .ok (.getfield 51, 3) := by decide +kernel
theorem dX11_mayHaveGone_33 : decode cX11_mayHaveGone 33 = .ok (.getfield 176, 3) := by decide +kernel
theorem dX11_mayHaveGone_36 : decode cX11_mayHaveGone 36 = .ok (.iload_n 2, 1) := by decide +kernel
theorem dX11_mayHaveGone_37 : decode cX11_mayHaveGone 37 = .ok (.invokevirtual 211, 3) := by decide +kernel
theorem dX11_mayHaveGone_40 : decode cX11_mayHaveGone 40 = .ok (.aload_n 0, 1) := by decide +kernel
theorem dX11_mayHaveGone_41 : decode cX11_mayHaveGone 41 = .ok (.getfield 51, 3) := by decide +kernel
theorem dX11_mayHaveGone_44 : decode cX11_mayHaveGone 44 = .ok (.iload_n 2, 1) := by decide +kernel
theorem dX11_mayHaveGone_45 : decode cX11_mayHaveGone 45 = .ok (.invokevirtual 217, 3) := by decide +kernel
theorem dX11_mayHaveGone_48 : decode cX11_mayHaveGone 48 = .ok (.aload_n 0, 1) := by decide +kernel
theorem dX11_mayHaveGone_49 : decode cX11_mayHaveGone 49 = .ok (.getfield 51, 3) := by decide +kernel
theorem dX11_mayHaveGone_52 : decode cX11_mayHaveGone 52 = .ok (.getfield 170, 3) := by decide +kernel
theorem dX11_mayHaveGone_55 : decode cX11_mayHaveGone 55 = .ok (.aload_n 0, 1) := by decide +kernel
theorem dX11_mayHaveGone_56 : decode cX11_mayHaveGone 56 = .ok (.getfield 51, 3) := by decide +kernel
theorem dX11_mayHaveGone_59 : decode cX11_mayHaveGone 59 = .ok (.getfield 191, 3) := by decide +kernel
theorem dX11_mayHaveGone_62 : decode cX11_mayHaveGone 62 = .ok (.if_icmp .eq 5, 3) := by decide +kernel
theorem dX11_mayHaveGone_65 : decode cX11_mayHaveGone 65 = .ok (.iconst 0, 1) := by decide +kernel
theorem dX11_mayHaveGone_66 : decode cX11_mayHaveGone 66 = .ok (.ireturn, 1) := by decide +kernel
theorem dX11_mayHaveGone_67 : decode cX11_mayHaveGone 67 = .ok (.bipush 8, 2) := by decide +kernel
theorem dX11_mayHaveGone_69 : decode cX11_mayHaveGone 69 = .ok (.aload_n 0, 1) := by decide +kernel
theorem dX11_mayHaveGone_70 : decode cX11_mayHaveGone 70 = .ok (.getfield 72, 3) := by decide +kernel
theorem dX11_mayHaveGone_73 : decode cX11_mayHaveGone 73 = .ok (.iload_n 1, 1) := by decide +kernel
theorem dX11_mayHaveGone_74 : decode cX11_mayHaveGone 74 = .ok (.invokevirtual 260, 3) := by decide +kernel
theorem dX11_mayHaveGone_77 : decode cX11_mayHaveGone 77 = .ok (.invokestatic 369, 3) := by decide +kernel
theorem dX11_mayHaveGone_80 : decode cX11_mayHaveGone 80 = .ok (.istore 4, 2) := by decide +kernel
theorem dX11_mayHaveGone_82 : decode cX11_mayHaveGone 82 = .ok (.iconst 0, 1) := by decide +kernel
theorem dX11_mayHaveGone_83 : decode cX11_mayHaveGone 83 = .ok (.istore 5, 2) := by decide +kernel
theorem dX11_mayHaveGone_85 : decode cX11_mayHaveGone 85 = .ok (.iload 5, 2) := by decide +kernel
theorem dX11_mayHaveGone_87 : decode cX11_mayHaveGone 87 = .ok (.iload 4, 2) := by decide +kernel
theorem dX11_mayHaveGone_89 : decode cX11_mayHaveGone 89 = .ok (.if_icmp .ge 41, 3) := by decide +kernel
theorem dX11_mayHaveGone_92 : decode cX11_mayHaveGone 92 = .ok (.aload_n 0, 1) := by decide +kernel
theorem dX11_mayHaveGone_93 : decode cX11_mayHaveGone 93 = .ok (.getfield 51, 3) := by decide +kernel
theorem dX11_mayHaveGone_96 : decode cX11_mayHaveGone 96 = .ok (.getfield 176, 3) := by decide +kernel
theorem dX11_mayHaveGone_99 : decode cX11_mayHaveGone 99 = .ok (.iload_n 2, 1) := by decide +kernel
theorem dX11_mayHaveGone_100 : decode cX11_mayHaveGone 100 = .ok (.bipush 8, 2) := by decide +kernel
theorem dX11_mayHaveGone_102 : decode cX11_mayHaveGone 102 = .ok (.imul, 1) := by decide +kernel
theorem dX11_mayHaveGone_103 : decode cX11_mayHaveGone 103 = .ok (.iload 5, 2) := by decide +kernel
theorem dX11_mayHaveGone_105 : decode cX11_mayHaveGone 105 = .ok (.iadd, 1) := by decide +kernel
theorem dX11_mayHaveGone_106 : decode cX11_mayHaveGone 106 = .ok (.invokevirtual 142, 3) := by decide +kernel
theorem dX11_mayHaveGone_109 : decode cX11_mayHaveGone 109 = .ok (.aload_n 0, 1) := by decide +kernel
theorem dX11_mayHaveGone_110 : decode cX11_mayHaveGone 110 = .ok (.getfield 72, 3) := by decide +kernel
theorem dX11_mayHaveGone_113 : decode cX11_mayHaveGone 113 = .ok (.iload_n 1, 1) := by decide +kernel
theorem dX11_mayHaveGone_114 : decode cX11_mayHaveGone 114 = .ok (.iload 5, 2) := by decide +kernel
theorem dX11_mayHaveGone_116 : decode cX11_mayHaveGone 116 = .ok (.invokevirtual 357, 3) := by decide +kernel
theorem dX11_mayHaveGone_119 : decode cX11_mayHaveGone 119 = .ok (.if_icmp .eq 5, 3) := by decide +kernel
theorem dX11_mayHaveGone_122 : decode cX11_mayHaveGone 122 = .ok (.iconst 0, 1) := by decide +kernel
theorem dX11_mayHaveGone_123 : decode cX11_mayHaveGone 123 = .ok (.ireturn, 1) := by decide +kernel
theorem dX11_mayHaveGone_124 : decode cX11_mayHaveGone 124 = .ok (.iinc 5 1, 3) := by decide +kernel
theorem dX11_mayHaveGone_127 : decode cX11_mayHaveGone 127 = .ok (.goto (-42), 3) := by decide +kernel
theorem dX11_mayHaveGone_130 : decode cX11_mayHaveGone 130 = .ok (.iconst 1, 1) := by decide +kernel
theorem dX11_mayHaveGone_131 : decode cX11_mayHaveGone 131 = .ok (.ireturn, 1) := by decide +kernel
theorem dX11_isSo_0 : decode cX11_isSo 0 = .ok (.aload_n 0, 1) := by decide +kernel
theorem dX11_isSo_1 : decode cX11_isSo 1 = .ok (.getfield 72, 3) := by decide +kernel
theorem dX11_isSo_4 : decode cX11_isSo 4 = .ok (.iload_n 1, 1) := by decide +kernel
theorem dX11_isSo_5 : decode cX11_isSo 5 = .ok (.iload_n 2, 1) := by decide +kernel
theorem dX11_isSo_6 : decode cX11_isSo 6 = .ok (.invokevirtual 357, 3) := by decide +kernel
theorem dX11_isSo_9 : decode cX11_isSo 9 = .ok (.istore_n 3, 1) := by decide +kernel
theorem dX11_isSo_10 : decode cX11_isSo 10 = .ok (.aload_n 0, 1) := by decide +kernel
theorem dX11_isSo_11 : decode cX11_isSo 11 = .ok (.getfield 72, 3) := by decide +kernel
theorem dX11_isSo_14 : decode cX11_isSo 14 = .ok (.iload_n 1, 1) := by decide +kernel
theorem dX11_isSo_15 : decode cX11_isSo 15 = .ok (.iload_n 2, 1) := by decide +kernel
theorem dX11_isSo_16 : decode cX11_isSo 16 = .ok (.iconst 1, 1) := by decide +kernel
theorem dX11_isSo_17 : decode cX11_isSo 17 = .ok (.iadd, 1) := by decide +kernel
theorem dX11_isSo_18 : decode cX11_isSo 18 = .ok (.invokevirtual 357, 3) := by decide +kernel
theorem dX11_isSo_21 : decode cX11_isSo 21 = .ok (.istore 4, 2) := by decide +kernel
theorem dX11_isSo_23 : decode cX11_isSo 23 = .ok (.aload_n 0, 1) := by decide +kernel
theorem dX11_isSo_24 : decode cX11_isSo 24 = .ok (.getfield 72, 3) := by decide +kernel
theorem dX11_isSo_27 : decode cX11_isSo 27 = .ok (.iload_n 1, 1) := by decide +kernel
theorem dX11_isSo_28 : decode cX11_isSo 28 = .ok (.iload_n 2, 1) := by decide +kernel
theorem dX11_isSo_29 : decode cX11_isSo 29 = .ok (.iconst 2, 1) := by decide +kernel
theorem dX11_isSo_30 : decode cX11_isSo 30 = .ok (.iadd, 1) := by decide +kernel
theorem dX11_isSo_31 : decode cX11_isSo 31 = .ok (.invokevirtual 357, 3) := by decide +kernel
theorem dX11_isSo_34 : decode cX11_isSo 34 = .ok (.istore 5, 2) := by decide +kernel
theorem dX11_isSo_36 : decode cX11_isSo 36 = .ok (.aload_n 0, 1) := by decide +kernel
theorem dX11_isSo_37 : decode cX11_isSo 37 = .ok (.iload_n 3, 1) := by decide +kernel
theorem dX11_isSo_38 : decode cX11_isSo 38 = .ok (.invokevirtual 220, 3) := by decide +kernel
theorem dX11_isSo_41 : decode cX11_isSo 41 = .ok (.ifCond .eq 22, 3) := by decide +kernel
theorem dX11_isSo_44 : decode cX11_isSo 44 = .ok (.iload 4, 2) := by decide +kernel
theorem dX11_isSo_46 : decode cX11_isSo 46 = .ok (.invokestatic 160, 3) := by decide +kernel
theorem dX11_isSo_49 : decode cX11_isSo 49 = .ok (.ifCond .eq 14, 3) := by decide +kernel
theorem dX11_isSo_52 : decode cX11_isSo 52 = .ok (.iload 5, 2) := by decide +kernel
theorem dX11_isSo_54 : decode cX11_isSo 54 = .ok (.ifCond .lt 9, 3) := by decide +kernel
theorem dX11_isSo_57 : decode cX11_isSo 57 = .ok (.iload 5, 2) := by decide +kernel
theorem dX11_isSo_59 : decode cX11_isSo 59 = .ok (.iconst 1, 1) := by decide +kernel
theorem dX11_isSo_60 : decode cX11_isSo 60 = .ok (.if_icmp .le 5, 3) := by decide +kernel
theorem dX11_isSo_63 : decode cX11_isSo 63 = .ok (.iconst 0, 1) := by decide +kernel
theorem dX11_isSo_64 : decode cX11_isSo 64 = .ok (.ireturn, 1) := by decide +kernel
theorem dX11_isSo_65 : decode cX11_isSo 65 = .ok (.aload_n 0, 1) := by decide +kernel
theorem dX11_isSo_66 : decode cX11_isSo 66 = .ok (.getfield 35, 3) := by decide +kernel
theorem dX11_isSo_69 : decode cX11_isSo 69 = .ok (.aload_n 0, 1) := by decide +kernel
theorem dX11_isSo_70 : decode cX11_isSo 70 = .ok (.getfield 51, 3) := by decide +kernel
theorem dX11_isSo_73 : decode cX11_isSo 73 = .ok (.getfield 176, 3) := by decide +kernel
theorem dX11_isSo_76 : decode cX11_isSo 76 = .ok (.iload 4, 2) := by decide +kernel
theorem dX11_isSo_78 : decode cX11_isSo 78 = .ok (.iload_n 3, 1) := by decide +kernel
theorem dX11_isSo_79 : decode cX11_isSo 79 = .ok (.iconst 0, 1) := by decide +kernel
theorem dX11_isSo_80 : decode cX11_isSo 80 = .ok (.iconst 0, 1) := by decide +kernel
theorem dX11_isSo_81 : decode cX11_isSo 81 = .ok (.invokevirtual 272, 3) := by decide +kernel
theorem dX11_isSo_84 : decode cX11_isSo 84 = .ok (.istore 6, 2) := by decide +kernel
theorem dX11_isSo_86 : decode cX11_isSo 86 = .ok (.iload 6, 2) := by decide +kernel
theorem dX11_isSo_88 : decode cX11_isSo 88 = .ok (.iconst (-1), 1) := by decide +kernel
theorem dX11_isSo_89 : decode cX11_isSo 89 = .ok (.if_icmp .ne 7, 3) := by decide +kernel
theorem dX11_isSo_92 : decode cX11_isSo 92 = .ok (.iconst 1, 1) := by decide +kernel
theorem dX11_isSo_93 : decode cX11_isSo 93 = .ok (.goto 4, 3) := by decide +kernel
theorem dX11_isSo_96 : decode cX11_isSo 96 = .ok (.iconst 0, 1) := by decide +kernel
theorem dX11_isSo_97 : decode cX11_isSo 97 = .ok (.iload 5, 2) := by decide +kernel
theorem dX11_isSo_99 : decode cX11_isSo 99 = .ok (.iconst 1, 1) := by decide +kernel
theorem dX11_isSo_100 : decode cX11_isSo 100 = .ok (.if_icmp .ne 7, 3) := by decide +kernel
theorem dX11_isSo_103 : decode cX11_isSo 103 = .ok (.iconst 1, 1) := by decide +kernel
theorem dX11_isSo_104 : decode cX11_isSo 104 = .ok (.goto 4, 3) := by decide +kernel
theorem dX11_isSo_107 : decode cX11_isSo 107 = .ok (.iconst 0, 1) := by decide +kernel
theorem dX11_isSo_108 : decode cX11_isSo 108 = .ok (.if_icmp .ne 7, 3) := by decide +kernel
theorem dX11_isSo_111 : decode cX11_isSo 111 = .ok (.iconst 1, 1) := by decide +kernel
theorem dX11_isSo_112 : decode cX11_isSo 112 = .ok (.goto 4, 3) := by decide +kernel
theorem dX11_isSo_115 : decode cX11_isSo 115 = .ok (.iconst 0, 1) := by decide +kernel
theorem dX11_isSo_116 : decode cX11_isSo 116 = .ok (.ireturn, 1) := by decide +kernel
theorem dX12_within_0 : decode cX12_within 0 = .ok (.lload_n 0, 1) := by decide +kernel
theorem dX12_within_1 : decode cX12_within 1 = .ok (.lload_n 2, 1) := by decide +kernel
theorem dX12_within_2 : decode cX12_within 2 = .ok (.lcmp, 1) := by decide +kernel
theorem dX12_within_3 : decode cX12_within 3 = .ok (.ifCond .lt 14, 3) := by decide +kernel
theorem dX12_within_6 : decode cX12_within 6 = .ok (.lload_n 0, 1) := by decide +kernel
theorem dX12_within_7 : decode cX12_within 7 = .ok (.lload 4, 2) := by decide +kernel
theorem dX12_within_9 : decode cX12_within 9 = .ok (.lcmp, 1) := by decide +kernel
theorem dX12_within_10 : decode cX12_within 10 = .ok (.ifCond .gt 7, 3) := by decide +kernel
theorem dX12_within_13 : decode cX12_within 13 = .ok (.iconst 1, 1) := by decide +kernel
theorem dX12_within_14 : decode cX12_within 14 = .ok (.goto 4, 3) := by decide +kernel
theorem dX12_within_17 : decode cX12_within 17 = .ok (.iconst 0, 1) := by decide +kernel
theorem dX12_within_18 : decode cX12_within 18 = .ok (.ireturn, 1) := by decide +kernel
theorem dX12_isIn_0 : decode cX12_isIn 0 = .ok (.iload_n 0, 1) := by decide +kernel
theorem dX12_isIn_1 : decode cX12_isIn 1 = .ok (.iload_n 1, 1) := by decide +kernel
theorem dX12_isIn_2 : decode cX12_isIn 2 = .ok (.ishr, 1) := by decide +kernel
theorem dX12_isIn_3 : decode cX12_isIn 3 = .ok (.iconst 1, 1) := by decide +kernel
theorem dX12_isIn_4 : decode cX12_isIn 4 = .ok (.iand, 1) := by decide +kernel
theorem dX12_isIn_5 : decode cX12_isIn 5 = .ok (.iconst 1, 1) := by decide +kernel
theorem dX12_isIn_6 : decode cX12_isIn 6 = .ok (.if_icmp .ne 7, 3) := by decide +kernel
theorem dX12_isIn_9 : decode cX12_isIn 9 = .ok (.iconst 1, 1) := by decide +kernel
theorem dX12_isIn_10 : decode cX12_isIn 10 = .ok (.goto 4, 3) := by decide +kernel
theorem dX12_isIn_13 : decode cX12_isIn 13 = .ok (.iconst 0, 1) := by decide +kernel
theorem dX12_isIn_14 : decode cX12_isIn 14 = .ok (.ireturn, 1) := by decide +kernel
theorem dX12_less_0 : decode cX12_less 0 = .ok (.iload_n 0, 1) := by decide +kernel
theorem dX12_less_1 : decode cX12_less 1 = .ok (.iload_n 1, 1) := by decide +kernel
theorem dX12_less_2 : decode cX12_less 2 = .ok (.if_icmp .le 9, 3) := by decide +kernel
theorem dX12_less_5 : decode cX12_less 5 = .ok (.iload_n 0, 1) := by decide +kernel
theorem dX12_less_6 : decode cX12_less 6 = .ok (.iload_n 1, 1) := by decide +kernel
theorem dX12_less_7 : decode cX12_less 7 = .ok (.isub, 1) := by decide +kernel
theorem dX12_less_8 : decode cX12_less 8 = .ok (.goto 4, 3) := by decide +kernel
theorem dX12_less_11 : decode cX12_less 11 = .ok (.iconst 0, 1) := by decide +kernel
theorem dX12_less_12 : decode cX12_less 12 = .ok (.ireturn, 1) := by decide +kernel

theorem dX8_tryWays_0 : decode cX8_tryWays 0 = .ok (.iload_n 2, 1) := by decide +kernel
theorem dX8_tryWays_1 : decode cX8_tryWays 1 = .ok (.aload_n 0, 1) := by decide +kernel
theorem dX8_tryWays_2 : decode cX8_tryWays 2 = .ok (.getfield 9, 3) := by decide +kernel
theorem dX8_tryWays_5 : decode cX8_tryWays 5 = .ok (.getfield 77, 3) := by decide +kernel
theorem dX8_tryWays_8 : decode cX8_tryWays 8 = .ok (.iadd, 1) := by decide +kernel
theorem dX8_tryWays_9 : decode cX8_tryWays 9 = .ok (.iload_n 1, 1) := by decide +kernel
theorem dX8_tryWays_10 : decode cX8_tryWays 10 = .ok (.isub, 1) := by decide +kernel
theorem dX8_tryWays_11 : decode cX8_tryWays 11 = .ok (.aload_n 0, 1) := by decide +kernel
theorem dX8_tryWays_12 : decode cX8_tryWays 12 = .ok (.getfield 38, 3) := by decide +kernel
theorem dX8_tryWays_15 : decode cX8_tryWays 15 = .ok (.if_icmp .gt 4, 3) := by decide +kernel
theorem dX8_tryWays_18 : decode cX8_tryWays 18 = .ok (.return_, 1) := by decide +kernel
theorem dX8_tryWays_19 : decode cX8_tryWays 19 = .ok (.iload_n 1, 1) := by decide +kernel
theorem dX8_tryWays_20 : decode cX8_tryWays 20 = .ok (.aload_n 0, 1) := by decide +kernel
theorem dX8_tryWays_21 : decode cX8_tryWays 21 = .ok (.getfield 9, 3) := by decide +kernel
theorem dX8_tryWays_24 : decode cX8_tryWays 24 = .ok (.getfield 77, 3) := by decide +kernel
theorem dX8_tryWays_27 : decode cX8_tryWays 27 = .ok (.if_icmp .ge 9, 3) := by decide +kernel
theorem dX8_tryWays_30 : decode cX8_tryWays 30 = .ok (.iload_n 1, 1) := by decide +kernel
theorem dX8_tryWays_31 : decode cX8_tryWays 31 = .ok (.bipush 7, 2) := by decide +kernel
theorem dX8_tryWays_33 : decode cX8_tryWays 33 = .ok (.if_icmp .lt 9, 3) := by decide +kernel
theorem dX8_tryWays_36 : decode cX8_tryWays 36 = .ok (.aload_n 0, 1) := by decide +kernel
theorem dX8_tryWays_37 : decode cX8_tryWays 37 = .ok (.iload_n 2, 1) := by decide +kernel
theorem dX8_tryWays_38 : decode cX8_tryWays 38 = .ok (.invokevirtual 82, 3) := by decide +kernel
theorem dX8_tryWays_41 : decode cX8_tryWays 41 = .ok (.return_, 1) := by decide +kernel
theorem dX8_tryWays_42 : decode cX8_tryWays 42 = .ok (.aload_n 0, 1) := by decide +kernel
theorem dX8_tryWays_43 : decode cX8_tryWays 43 = .ok (.getfield 22, 3) := by decide +kernel
theorem dX8_tryWays_46 : decode cX8_tryWays 46 = .ok (.getfield 74, 3) := by decide +kernel
theorem dX8_tryWays_49 : decode cX8_tryWays 49 = .ok (.istore_n 3, 1) := by decide +kernel
theorem dX8_tryWays_50 : decode cX8_tryWays 50 = .ok (.aload_n 0, 1) := by decide +kernel
theorem dX8_tryWays_51 : decode cX8_tryWays 51 = .ok (.iload_n 1, 1) := by decide +kernel
theorem dX8_tryWays_52 : decode cX8_tryWays 52 = .ok (.invokevirtual 86, 3) := by decide +kernel
theorem dX8_tryWays_55 : decode cX8_tryWays 55 = .ok (.iconst 0, 1) := by decide +kernel
theorem dX8_tryWays_56 : decode cX8_tryWays 56 = .ok (.istore 4, 2) := by decide +kernel
theorem dX8_tryWays_58 : decode cX8_tryWays 58 = .ok (.iload 4, 2) := by decide +kernel
theorem dX8_tryWays_60 : decode cX8_tryWays 60 = .ok (.iconst 3, 1) := by decide +kernel
theorem dX8_tryWays_61 : decode cX8_tryWays 61 = .ok (.if_icmp .ge 61, 3) := by decide +kernel
theorem dX8_tryWays_64 : decode cX8_tryWays 64 = .ok (.aload_n 0, 1) := by decide +kernel
theorem dX8_tryWays_65 : decode cX8_tryWays 65 = .ok (.getfield 31, 3) := by decide +kernel
theorem dX8_tryWays_68 : decode cX8_tryWays 68 = .ok (.iload_n 1, 1) := by decide +kernel
theorem dX8_tryWays_69 : decode cX8_tryWays 69 = .ok (.iload 4, 2) := by decide +kernel
theorem dX8_tryWays_71 : decode cX8_tryWays 71 = .ok (.iastore, 1) := by decide +kernel
theorem dX8_tryWays_72 : decode cX8_tryWays 72 = .ok (.aload_n 0, 1) := by decide +kernel
theorem dX8_tryWays_73 : decode cX8_tryWays 73 = .ok (.getfield 15, 3) := by decide +kernel
theorem dX8_tryWays_76 : decode cX8_tryWays 76 = .ok (.aload_n 0, 1) := by decide +kernel
theorem dX8_tryWays_77 : decode cX8_tryWays 77 = .ok (.getfield 22, 3) := by decide +kernel
theorem dX8_tryWays_80 : decode cX8_tryWays 80 = .ok (.iload 4, 2) := by decide +kernel
theorem dX8_tryWays_82 : decode cX8_tryWays 82 = .ok (.iload_n 1, 1) := by decide +kernel
theorem dX8_tryWays_83 : decode cX8_tryWays 83 = .ok (.iconst 0, 1) := by decide +kernel
theorem dX8_tryWays_84 : decode cX8_tryWays 84 = .ok (.iconst 0, 1) := by decide +kernel
theorem dX8_tryWays_85 : decode cX8_tryWays 85 = .ok (.invokevirtual 89, 3) := by decide +kernel
theorem dX8_tryWays_88 : decode cX8_tryWays 88 = .ok (.iconst (-1), 1) := by decide +kernel
theorem dX8_tryWays_89 : decode cX8_tryWays 89 = .ok (.if_icmp .ne 7, 3) := by decide +kernel
theorem dX8_tryWays_92 : decode cX8_tryWays 92 = .ok (.iconst 1, 1) := by decide +kernel
theorem dX8_tryWays_93 : decode cX8_tryWays 93 = .ok (.goto 4, 3) := by decide +kernel
theorem dX8_tryWays_96 : decode cX8_tryWays 96 = .ok (.iconst 0, 1) := by decide +kernel
theorem dX8_tryWays_97 : decode cX8_tryWays 97 = .ok (.istore 5, 2) := by decide +kernel
theorem dX8_tryWays_99 : decode cX8_tryWays 99 = .ok (.aload_n 0, 1) := by decide +kernel
theorem dX8_tryWays_100 : decode cX8_tryWays 100 = .ok (.iload_n 1, 1) := by decide +kernel
theorem dX8_tryWays_101 : decode cX8_tryWays 101 = .ok (.iconst 1, 1) := by decide +kernel
theorem dX8_tryWays_102 : decode cX8_tryWays 102 = .ok (.iadd, 1) := by decide +kernel
theorem dX8_tryWays_103 : decode cX8_tryWays 103 = .ok (.iload_n 2, 1) := by decide +kernel
theorem dX8_tryWays_104 : decode cX8_tryWays 104 = .ok (.iload 5, 2) := by decide +kernel
theorem dX8_tryWays_106 : decode cX8_tryWays 106 = .ok (.iadd, 1) := by decide +kernel
theorem dX8_tryWays_107 : decode cX8_tryWays 107 = .ok (.invokevirtual 55, 3) := by decide +kernel
theorem dX8_tryWays_110 : decode cX8_tryWays 110 = .ok (.aload_n 0, 1) := by decide +kernel
theorem dX8_tryWays_111 : decode cX8_tryWays 111 = .ok (.iload_n 1, 1) := by decide +kernel
theorem dX8_tryWays_112 : decode cX8_tryWays 112 = .ok (.iload_n 3, 1) := by decide +kernel
theorem dX8_tryWays_113 : decode cX8_tryWays 113 = .ok (.invokevirtual 93, 3) := by decide +kernel
theorem dX8_tryWays_116 : decode cX8_tryWays 116 = .ok (.iinc 4 1, 3) := by decide +kernel
theorem dX8_tryWays_119 : decode cX8_tryWays 119 = .ok (.goto (-61), 3) := by decide +kernel
theorem dX8_tryWays_122 : decode cX8_tryWays 122 = .ok (.return_, 1) := by decide +kernel
theorem dX9_init_0 : decode cX9_init 0 = .ok (.aload_n 0, 1) := by decide +kernel
theorem dX9_init_1 : decode cX9_init 1 = .ok (.invokespecial 3, 3) := by decide +kernel
theorem dX9_init_4 : decode cX9_init 4 = .ok (.aload_n 0, 1) := by decide +kernel
theorem dX9_init_5 : decode cX9_init 5 = .ok (.bipush 6, 2) := by decide +kernel
theorem dX9_init_7 : decode cX9_init 7 = .ok (.newarray .int, 2) := by decide +kernel
theorem dX9_init_9 : decode cX9_init 9 = .ok (.putfield 11, 3) := by decide +kernel
theorem dX9_init_12 : decode cX9_init 12 = .ok (.aload_n 0, 1) := by decide +kernel
theorem dX9_init_13 : decode cX9_init 13 = .ok (.bipush 6, 2) := by decide +kernel
theorem dX9_init_15 : decode cX9_init 15 = .ok (.newarray .int, 2) := by decide +kernel
theorem dX9_init_17 : decode cX9_init 17 = .ok (.putfield 15, 3) := by decide +kernel
theorem dX9_init_20 : decode cX9_init 20 = .ok (.aload_n 0, 1) := by decide +kernel
theorem dX9_init_21 : decode cX9_init 21 = .ok (.bipush 6, 2) := by decide +kernel
theorem dX9_init_23 : decode cX9_init 23 = .ok (.newarray .int, 2) := by decide +kernel
theorem dX9_init_25 : decode cX9_init 25 = .ok (.putfield 18, 3) := by decide +kernel
theorem dX9_init_28 : decode cX9_init 28 = .ok (.aload_n 0, 1) := by decide +kernel
theorem dX9_init_29 : decode cX9_init 29 = .ok (.bipush 6, 2) := by decide +kernel
theorem dX9_init_31 : decode cX9_init 31 = .ok (.bipush 60, 2) := by decide +kernel
theorem dX9_init_33 : decode cX9_init 33 = .ok (.multianewarray 21 2, 4) := by decide +kernel
theorem dX9_init_37 : decode cX9_init 37 = .ok (.putfield 23, 3) := by decide +kernel
theorem dX9_init_40 : decode cX9_init 40 = .ok (.aload_n 0, 1) := by decide +kernel
theorem dX9_init_41 : decode cX9_init 41 = .ok (.getfield 11, 3) := by decide +kernel
theorem dX9_init_44 : decode cX9_init 44 = .ok (.iconst (-1), 1) := by decide +kernel
theorem dX9_init_45 : decode cX9_init 45 = .ok (.invokestatic 26, 3) := by decide +kernel
theorem dX9_init_48 : decode cX9_init 48 = .ok (.aload_n 0, 1) := by decide +kernel
theorem dX9_init_49 : decode cX9_init 49 = .ok (.getfield 18, 3) := by decide +kernel
theorem dX9_init_52 : decode cX9_init 52 = .ok (.iconst (-1), 1) := by decide +kernel
theorem dX9_init_53 : decode cX9_init 53 = .ok (.invokestatic 26, 3) := by decide +kernel
theorem dX9_init_56 : decode cX9_init 56 = .ok (.return_, 1) := by decide +kernel
theorem dX9_isEmpty_0 : decode cX9_isEmpty 0 = .ok (.iload_n 1, 1) := by decide +kernel
theorem dX9_isEmpty_1 : decode cX9_isEmpty 1 = .ok (.invokestatic 32, 3) := by decide +kernel
theorem dX9_isEmpty_4 : decode cX9_isEmpty 4 = .ok (.ifCond .eq 13, 3) := by decide +kernel
theorem dX9_isEmpty_7 : decode cX9_isEmpty 7 = .ok (.aload_n 0, 1) := by decide +kernel
theorem dX9_isEmpty_8 : decode cX9_isEmpty 8 = .ok (.getfield 11, 3) := by decide +kernel
theorem dX9_isEmpty_11 : decode cX9_isEmpty 11 = .ok (.iload_n 1, 1) := by decide +kernel
theorem dX9_isEmpty_12 : decode cX9_isEmpty 12 = .ok (.iaload, 1) := by decide +kernel
theorem dX9_isEmpty_13 : decode cX9_isEmpty 13 = .ok (.iconst (-1), 1) := by decide +kernel
theorem dX9_isEmpty_14 : decode cX9_isEmpty 14 = .ok (.if_icmp .ne 7, 3) := by decide +kernel
theorem dX9_isEmpty_17 : decode cX9_isEmpty 17 = .ok (.iconst 1, 1) := by decide +kernel
theorem dX9_isEmpty_18 : decode cX9_isEmpty 18 = .ok (.goto 4, 3) := by decide +kernel
theorem dX9_isEmpty_21 : decode cX9_isEmpty 21 = .ok (.iconst 0, 1) := by decide +kernel
theorem dX9_isEmpty_22 : decode cX9_isEmpty 22 = .ok (.ireturn, 1) := by decide +kernel
theorem dX9_isBytes_0 : decode cX9_isBytes 0 = .ok (.iload_n 1, 1) := by decide +kernel
theorem dX9_isBytes_1 : decode cX9_isBytes 1 = .ok (.invokestatic 32, 3) := by decide +kernel
theorem dX9_isBytes_4 : decode cX9_isBytes 4 = .ok (.ifCond .eq 16, 3) := by decide +kernel
theorem dX9_isBytes_7 : decode cX9_isBytes 7 = .ok (.aload_n 0, 1) := by decide +kernel
theorem dX9_isBytes_8 : decode cX9_isBytes 8 = .ok (.getfield 11, 3) := by decide +kernel
theorem dX9_isBytes_11 : decode cX9_isBytes 11 = .ok (.iload_n 1, 1) := by decide +kernel
theorem dX9_isBytes_12 : decode cX9_isBytes 12 = .ok (.iaload, 1) := by decide +kernel
theorem dX9_isBytes_13 : decode cX9_isBytes 13 = .ok (.ifCond .ne 7, 3) := by decide +kernel
theorem dX9_isBytes_16 : decode cX9_isBytes 16 = .ok (.iconst 1, 1) := by decide +kernel
theorem dX9_isBytes_17 : decode cX9_isBytes 17 = .ok (.goto 4, 3) := by decide +kernel
theorem dX9_isBytes_20 : decode cX9_isBytes 20 = .ok (.iconst 0, 1) := by decide +kernel
theorem dX9_isBytes_21 : decode cX9_isBytes 21 = .ok (.ireturn, 1) := by decide +kernel
theorem dX9_isRow_0 : decode cX9_isRow 0 = .ok (.iload_n 1, 1) := by decide +kernel
theorem dX9_isRow_1 : decode cX9_isRow 1 = .ok (.invokestatic 32, 3) := by decide +kernel
theorem dX9_isRow_4 : decode cX9_isRow 4 = .ok (.ifCond .eq 16, 3) := by decide +kernel
theorem dX9_isRow_7 : decode cX9_isRow 7 = .ok (.aload_n 0, 1) := by decide +kernel
theorem dX9_isRow_8 : decode cX9_isRow 8 = .ok (.getfield 11, 3) := by decide +kernel
theorem dX9_isRow_11 : decode cX9_isRow 11 = .ok (.iload_n 1, 1) := by decide +kernel
theorem dX9_isRow_12 : decode cX9_isRow 12 = .ok (.iaload, 1) := by decide +kernel
theorem dX9_isRow_13 : decode cX9_isRow 13 = .ok (.ifCond .lt 7, 3) := by decide +kernel
theorem dX9_isRow_16 : decode cX9_isRow 16 = .ok (.iconst 1, 1) := by decide +kernel
theorem dX9_isRow_17 : decode cX9_isRow 17 = .ok (.goto 4, 3) := by decide +kernel
theorem dX9_isRow_20 : decode cX9_isRow 20 = .ok (.iconst 0, 1) := by decide +kernel
theorem dX9_isRow_21 : decode cX9_isRow 21 = .ok (.ireturn, 1) := by decide +kernel
theorem dX9_sizeOf_0 : decode cX9_sizeOf 0 = .ok (.iload_n 1, 1) := by decide +kernel
theorem dX9_sizeOf_1 : decode cX9_sizeOf 1 = .ok (.invokestatic 32, 3) := by decide +kernel
theorem dX9_sizeOf_4 : decode cX9_sizeOf 4 = .ok (.ifCond .eq 12, 3) := by decide +kernel
theorem dX9_sizeOf_7 : decode cX9_sizeOf 7 = .ok (.aload_n 0, 1) := by decide +kernel
theorem dX9_sizeOf_8 : decode cX9_sizeOf 8 = .ok (.getfield 15, 3) := by decide +kernel
theorem dX9_sizeOf_11 : decode cX9_sizeOf 11 = .ok (.iload_n 1, 1) := by decide +kernel
theorem dX9_sizeOf_12 : decode cX9_sizeOf 12 = .ok (.iaload, 1) := by decide +kernel
theorem dX9_sizeOf_13 : decode cX9_sizeOf 13 = .ok (.goto 4, 3) := by decide +kernel
theorem dX9_sizeOf_16 : decode cX9_sizeOf 16 = .ok (.iconst 0, 1) := by decide +kernel
theorem dX9_sizeOf_17 : decode cX9_sizeOf 17 = .ok (.ireturn, 1) := by decide +kernel
theorem dX9_bodyOn_0 : decode cX9_bodyOn 0 = .ok (.iload_n 1, 1) := by decide +kernel
theorem dX9_bodyOn_1 : decode cX9_bodyOn 1 = .ok (.invokestatic 32, 3) := by decide +kernel
theorem dX9_bodyOn_4 : decode cX9_bodyOn 4 = .ok (.ifCond .eq 12, 3) := by decide +kernel
theorem dX9_bodyOn_7 : decode cX9_bodyOn 7 = .ok (.aload_n 0, 1) := by decide +kernel
theorem dX9_bodyOn_8 : decode cX9_bodyOn 8 = .ok (.getfield 18, 3) := by decide +kernel
theorem dX9_bodyOn_11 : decode cX9_bodyOn 11 = .ok (.iload_n 1, 1) := by decide +kernel
theorem dX9_bodyOn_12 : decode cX9_bodyOn 12 = .ok (.iaload, 1) := by decide +kernel
theorem dX9_bodyOn_13 : decode cX9_bodyOn 13 = .ok (.goto 4, 3) := by decide +kernel
theorem dX9_bodyOn_16 : decode cX9_bodyOn 16 = .ok (.iconst (-1), 1) := by decide +kernel
theorem dX9_bodyOn_17 : decode cX9_bodyOn 17 = .ok (.ireturn, 1) := by decide +kernel
theorem dX9_bytesRefusal_0 : decode cX9_bytesRefusal 0 = .ok (.aload_n 0, 1) := by decide +kernel
theorem dX9_bytesRefusal_1 : decode cX9_bytesRefusal 1 = .ok (.iload_n 1, 1) := by decide +kernel
theorem dX9_bytesRefusal_2 : decode cX9_bytesRefusal 2 = .ok (.invokevirtual 36, 3) := by decide +kernel
theorem dX9_bytesRefusal_5 : decode cX9_bytesRefusal 5 = .ok (.ifCond .eq 6, 3) := by decide +kernel
theorem dX9_bytesRefusal_8 : decode cX9_bytesRefusal 8 = .ok (.bipush (-11), 2) := by decide +kernel
theorem dX9_bytesRefusal_10 : decode cX9_bytesRefusal 10 = .ok (.ireturn, 1) := by decide +kernel
theorem dX9_bytesRefusal_11 : decode cX9_bytesRefusal 11 = .ok (.aload_n 0, 1) := by decide +kernel
theorem dX9_bytesRefusal_12 : decode cX9_bytesRefusal 12 = .ok (.iload_n 1, 1) := by decide +kernel
theorem dX9_bytesRefusal_13 : decode cX9_bytesRefusal 13 = .ok (.invokevirtual 39, 3) := by decide +kernel
theorem dX9_bytesRefusal_16 : decode cX9_bytesRefusal 16 = .ok (.ifCond .eq 7, 3) := by decide +kernel
theorem dX9_bytesRefusal_19 : decode cX9_bytesRefusal 19 = .ok (.iconst 0, 1) := by decide +kernel
theorem dX9_bytesRefusal_20 : decode cX9_bytesRefusal 20 = .ok (.goto 5, 3) := by decide +kernel
theorem dX9_bytesRefusal_23 : decode cX9_bytesRefusal 23 = .ok (.bipush (-12), 2) := by decide +kernel
theorem dX9_bytesRefusal_25 : decode cX9_bytesRefusal 25 = .ok (.ireturn, 1) := by decide +kernel
theorem dX9_placeRefusal_0 : decode cX9_placeRefusal 0 = .ok (.aload_n 0, 1) := by decide +kernel
theorem dX9_placeRefusal_1 : decode cX9_placeRefusal 1 = .ok (.iload_n 1, 1) := by decide +kernel
theorem dX9_placeRefusal_2 : decode cX9_placeRefusal 2 = .ok (.invokevirtual 36, 3) := by decide +kernel
theorem dX9_placeRefusal_5 : decode cX9_placeRefusal 5 = .ok (.ifCond .eq 6, 3) := by decide +kernel
theorem dX9_placeRefusal_8 : decode cX9_placeRefusal 8 = .ok (.bipush (-11), 2) := by decide +kernel
theorem dX9_placeRefusal_10 : decode cX9_placeRefusal 10 = .ok (.ireturn, 1) := by decide +kernel
theorem dX9_placeRefusal_11 : decode cX9_placeRefusal 11 = .ok (.aload_n 0, 1) := by decide +kernel
theorem dX9_placeRefusal_12 : decode cX9_placeRefusal 12 = .ok (.iload_n 1, 1) := by decide +kernel
theorem dX9_placeRefusal_13 : decode cX9_placeRefusal 13 = .ok (.invokevirtual 42, 3) := by decide +kernel
theorem dX9_placeRefusal_16 : decode cX9_placeRefusal 16 = .ok (.ifCond .ne 6, 3) := by decide +kernel
theorem dX9_placeRefusal_19 : decode cX9_placeRefusal 19 = .ok (.bipush (-12), 2) := by decide +kernel
theorem dX9_placeRefusal_21 : decode cX9_placeRefusal 21 = .ok (.ireturn, 1) := by decide +kernel
theorem dX9_placeRefusal_22 : decode cX9_placeRefusal 22 = .ok (.iload_n 2, 1) := by decide +kernel
theorem dX9_placeRefusal_23 : decode cX9_placeRefusal 23 = .ok (.ifCond .lt 16, 3) := by decide +kernel
theorem dX9_placeRefusal_26 : decode cX9_placeRefusal 26 = .ok (.iload_n 2, 1) := by decide +kernel
theorem dX9_placeRefusal_27 : decode cX9_placeRefusal 27 = .ok (.aload_n 0, 1) := by decide +kernel
theorem dX9_placeRefusal_28 : decode cX9_placeRefusal 28 = .ok (.iload_n 1, 1) := by decide +kernel
theorem dX9_placeRefusal_29 : decode cX9_placeRefusal 29 = .ok (.invokevirtual 45, 3) := by decide +kernel
theorem dX9_placeRefusal_32 : decode cX9_placeRefusal 32 = .ok (.if_icmp .ge 7, 3) := by decide +kernel
theorem dX9_placeRefusal_35 : decode cX9_placeRefusal 35 = .ok (.iconst 0, 1) := by decide +kernel
theorem dX9_placeRefusal_36 : decode cX9_placeRefusal 36 = .ok (.goto 5, 3) := by decide +kernel
theorem dX9_placeRefusal_39 : decode cX9_placeRefusal 39 = .ok (.bipush (-13), 2) := by decide +kernel
theorem dX9_placeRefusal_41 : decode cX9_placeRefusal 41 = .ok (.ireturn, 1) := by decide +kernel
theorem dX9_holdBody_0 : decode cX9_holdBody 0 = .ok (.iload_n 1, 1) := by decide +kernel
theorem dX9_holdBody_1 : decode cX9_holdBody 1 = .ok (.invokestatic 32, 3) := by decide +kernel
theorem dX9_holdBody_4 : decode cX9_holdBody 4 = .ok (.ifCond .ne 4, 3) := by decide +kernel
theorem dX9_holdBody_7 : decode cX9_holdBody 7 = .ok (.return_, 1) := by decide +kernel
theorem dX9_holdBody_8 : decode cX9_holdBody 8 = .ok (.aload_n 0, 1) := by decide +kernel
theorem dX9_holdBody_9 : decode cX9_holdBody 9 = .ok (.getfield 11, 3) := by decide +kernel
theorem dX9_holdBody_12 : decode cX9_holdBody 12 = .ok (.iload_n 1, 1) := by decide +kernel
theorem dX9_holdBody_13 : decode cX9_holdBody 13 = .ok (.iload_n 2, 1) := by decide +kernel
theorem dX9_holdBody_14 : decode cX9_holdBody 14 = .ok (.ifCond .ge 7, 3) := by decide +kernel
theorem dX9_holdBody_17 : decode cX9_holdBody 17 = .ok (.iconst (-1), 1) := by decide +kernel
theorem dX9_holdBody_18 : decode cX9_holdBody 18 = .ok (.goto 5, 3) := by decide +kernel
theorem dX9_holdBody_21 : decode cX9_holdBody 21 = .ok (.bipush (-2), 2) := by decide +kernel
theorem dX9_holdBody_23 : decode cX9_holdBody 23 = .ok (.iastore, 1) := by decide +kernel
theorem dX9_holdBody_24 : decode cX9_holdBody 24 = .ok (.aload_n 0, 1) := by decide +kernel
theorem dX9_holdBody_25 : decode cX9_holdBody 25 = .ok (.getfield 18, 3) := by decide +kernel
theorem dX9_holdBody_28 : decode cX9_holdBody 28 = .ok (.iload_n 1, 1) := by decide +kernel
theorem dX9_holdBody_29 : decode cX9_holdBody 29 = .ok (.iload_n 2, 1) := by decide +kernel
theorem dX9_holdBody_30 : decode cX9_holdBody 30 = .ok (.ifCond .ge 7, 3) := by decide +kernel
theorem dX9_holdBody_33 : decode cX9_holdBody 33 = .ok (.iconst (-1), 1) := by decide +kernel
theorem dX9_holdBody_34 : decode cX9_holdBody 34 = .ok (.goto 4, 3) := by decide +kernel
theorem dX9_holdBody_37 : decode cX9_holdBody 37 = .ok (.iload_n 2, 1) := by decide +kernel
theorem dX9_holdBody_38 : decode cX9_holdBody 38 = .ok (.iastore, 1) := by decide +kernel
theorem dX9_holdBody_39 : decode cX9_holdBody 39 = .ok (.aload_n 0, 1) := by decide +kernel
theorem dX9_holdBody_40 : decode cX9_holdBody 40 = .ok (.getfield 15, 3) := by decide +kernel
theorem dX9_holdBody_43 : decode cX9_holdBody 43 = .ok (.iload_n 1, 1) := by decide +kernel
theorem dX9_holdBody_44 : decode cX9_holdBody 44 = .ok (.iconst 0, 1) := by decide +kernel
theorem dX9_holdBody_45 : decode cX9_holdBody 45 = .ok (.iastore, 1) := by decide +kernel
theorem dX9_holdBody_46 : decode cX9_holdBody 46 = .ok (.return_, 1) := by decide +kernel
theorem dX9_holdRow_0 : decode cX9_holdRow 0 = .ok (.iload_n 1, 1) := by decide +kernel
theorem dX9_holdRow_1 : decode cX9_holdRow 1 = .ok (.invokestatic 32, 3) := by decide +kernel
theorem dX9_holdRow_4 : decode cX9_holdRow 4 = .ok (.ifCond .eq 13, 3) := by decide +kernel
theorem dX9_holdRow_7 : decode cX9_holdRow 7 = .ok (.iload_n 3, 1) := by decide +kernel
theorem dX9_holdRow_8 : decode cX9_holdRow 8 = .ok (.ifCond .lt 9, 3) := by decide +kernel
theorem dX9_holdRow_11 : decode cX9_holdRow 11 = .ok (.iload_n 3, 1) := by decide +kernel
theorem dX9_holdRow_12 : decode cX9_holdRow 12 = .ok (.bipush 60, 2) := by decide +kernel
theorem dX9_holdRow_14 : decode cX9_holdRow 14 = .ok (.if_icmp .le 4, 3) := by decide +kernel
theorem dX9_holdRow_17 : decode cX9_holdRow 17 = .ok (.return_, 1) := by decide +kernel
theorem dX9_holdRow_18 : decode cX9_holdRow 18 = .ok (.aload_n 0, 1) := by decide +kernel
theorem dX9_holdRow_19 : decode cX9_holdRow 19 = .ok (.getfield 11, 3) := by decide +kernel
theorem dX9_holdRow_22 : decode cX9_holdRow 22 = .ok (.iload_n 1, 1) := by decide +kernel
theorem dX9_holdRow_23 : decode cX9_holdRow 23 = .ok (.iload_n 2, 1) := by decide +kernel
theorem dX9_holdRow_24 : decode cX9_holdRow 24 = .ok (.iastore, 1) := by decide +kernel
theorem dX9_holdRow_25 : decode cX9_holdRow 25 = .ok (.aload_n 0, 1) := by decide +kernel
theorem dX9_holdRow_26 : decode cX9_holdRow 26 = .ok (.getfield 18, 3) := by decide +kernel
theorem dX9_holdRow_29 : decode cX9_holdRow 29 = .ok (.iload_n 1, 1) := by decide +kernel
theorem dX9_holdRow_30 : decode cX9_holdRow 30 = .ok (.iconst (-1), 1) := by decide +kernel
theorem dX9_holdRow_31 : decode cX9_holdRow 31 = .ok (.iastore, 1) := by decide +kernel
theorem dX9_holdRow_32 : decode cX9_holdRow 32 = .ok (.aload_n 0, 1) := by decide +kernel
theorem dX9_holdRow_33 : decode cX9_holdRow 33 = .ok (.getfield 15, 3) := by decide +kernel
theorem dX9_holdRow_36 : decode cX9_holdRow 36 = .ok (.iload_n 1, 1) := by decide +kernel
theorem dX9_holdRow_37 : decode cX9_holdRow 37 = .ok (.iload_n 3, 1) := by decide +kernel
theorem dX9_holdRow_38 : decode cX9_holdRow 38 = .ok (.iastore, 1) := by decide +kernel
theorem dX9_holdRow_39 : decode cX9_holdRow 39 = .ok (.aload_n 0, 1) := by decide +kernel
theorem dX9_holdRow_40 : decode cX9_holdRow 40 = .ok (.getfield 23, 3) := by decide +kernel
theorem dX9_holdRow_43 : decode cX9_holdRow 43 = .ok (.iload_n 1, 1) := by decide +kernel
theorem dX9_holdRow_44 : decode cX9_holdRow 44 = .ok (.aaload, 1) := by decide +kernel
theorem dX9_holdRow_45 : decode cX9_holdRow 45 = .ok (.lconst 0, 1) := by decide +kernel
theorem dX9_holdRow_46 : decode cX9_holdRow 46 = .ok (.invokestatic 49, 3) := by decide +kernel
theorem dX9_holdRow_49 : decode cX9_holdRow 49 = .ok (.return_, 1) := by decide +kernel
theorem dX9_get_0 : decode cX9_get 0 = .ok (.iload_n 1, 1) := by decide +kernel
theorem dX9_get_1 : decode cX9_get 1 = .ok (.invokestatic 32, 3) := by decide +kernel
theorem dX9_get_4 : decode cX9_get 4 = .ok (.ifCond .eq 24, 3) := by decide +kernel
theorem dX9_get_7 : decode cX9_get 7 = .ok (.iload_n 2, 1) := by decide +kernel
theorem dX9_get_8 : decode cX9_get 8 = .ok (.ifCond .lt 20, 3) := by decide +kernel
theorem dX9_get_11 : decode cX9_get 11 = .ok (.iload_n 2, 1) := by decide +kernel
theorem dX9_get_12 : decode cX9_get 12 = .ok (.bipush 60, 2) := by decide +kernel
theorem dX9_get_14 : decode cX9_get 14 = .ok (.if_icmp .ge 14, 3) := by decide +kernel
theorem dX9_get_17 : decode cX9_get 17 = .ok (.aload_n 0, 1) := by decide +kernel
theorem dX9_get_18 : decode cX9_get 18 = .ok (.getfield 23, 3) := by decide +kernel
theorem dX9_get_21 : decode cX9_get 21 = .ok (.iload_n 1, 1) := by decide +kernel
theorem dX9_get_22 : decode cX9_get 22 = .ok (.aaload, 1) := by decide +kernel
theorem dX9_get_23 : decode cX9_get 23 = .ok (.iload_n 2, 1) := by decide +kernel
theorem dX9_get_24 : decode cX9_get 24 = .ok (.laload, 1) := by decide +kernel
theorem dX9_get_25 : decode cX9_get 25 = .ok (.goto 4, 3) := by decide +kernel
theorem dX9_get_28 : decode cX9_get 28 = .ok (.lconst 0, 1) := by decide +kernel
theorem dX9_get_29 : decode cX9_get 29 = .ok (.lreturn, 1) := by decide +kernel
theorem dX9_byteAt_0 : decode cX9_byteAt 0 = .ok (.aload_n 0, 1) := by decide +kernel
theorem dX9_byteAt_1 : decode cX9_byteAt 1 = .ok (.iload_n 1, 1) := by decide +kernel
theorem dX9_byteAt_2 : decode cX9_byteAt 2 = .ok (.iload_n 2, 1) := by decide +kernel
theorem dX9_byteAt_3 : decode cX9_byteAt 3 = .ok (.invokevirtual 52, 3) := by decide +kernel
theorem dX9_byteAt_6 : decode cX9_byteAt 6 = .ok (.l2i, 1) := by decide +kernel
theorem dX9_byteAt_7 : decode cX9_byteAt 7 = .ok (.ireturn, 1) := by decide +kernel
theorem dX9_set_0 : decode cX9_set 0 = .ok (.iload_n 1, 1) := by decide +kernel
theorem dX9_set_1 : decode cX9_set 1 = .ok (.invokestatic 32, 3) := by decide +kernel
theorem dX9_set_4 : decode cX9_set 4 = .ok (.ifCond .eq 31, 3) := by decide +kernel
theorem dX9_set_7 : decode cX9_set 7 = .ok (.iload_n 2, 1) := by decide +kernel
theorem dX9_set_8 : decode cX9_set 8 = .ok (.ifCond .lt 27, 3) := by decide +kernel
theorem dX9_set_11 : decode cX9_set 11 = .ok (.iload_n 2, 1) := by decide +kernel
theorem dX9_set_12 : decode cX9_set 12 = .ok (.bipush 60, 2) := by decide +kernel
theorem dX9_set_14 : decode cX9_set 14 = .ok (.if_icmp .ge 21, 3) := by decide +kernel
theorem dX9_set_17 : decode cX9_set 17 = .ok (.aload_n 0, 1) := by decide +kernel
theorem dX9_set_18 : decode cX9_set 18 = .ok (.getfield 23, 3) := by decide +kernel
theorem dX9_set_21 : decode cX9_set 21 = .ok (.iload_n 1, 1) := by decide +kernel
theorem dX9_set_22 : decode cX9_set 22 = .ok (.aaload, 1) := by decide +kernel
theorem dX9_set_23 : decode cX9_set 23 = .ok (.iload_n 2, 1) := by decide +kernel
theorem dX9_set_24 : decode cX9_set 24 = .ok (.aload_n 0, 1) := by decide +kernel
theorem dX9_set_25 : decode cX9_set 25 = .ok (.getfield 11, 3) := by decide +kernel
theorem dX9_set_28 : decode cX9_set 28 = .ok (.iload_n 1, 1) := by decide +kernel
theorem dX9_set_29 : decode cX9_set 29 = .ok (.iaload, 1) := by decide +kernel
theorem dX9_set_30 : decode cX9_set 30 = .ok (.lload_n 3, 1) := by decide +kernel
theorem dX9_set_31 : decode cX9_set 31 = .ok (.invokestatic 56, 3) := by decide +kernel
theorem dX9_set_34 : decode cX9_set 34 = .ok (.lastore, 1) := by decide +kernel
theorem dX9_set_35 : decode cX9_set 35 = .ok (.return_, 1) := by decide +kernel
theorem dX9_fitted_0 : decode cX9_fitted 0 = .ok (.iload_n 0, 1) := by decide +kernel
theorem dX9_fitted_1 : decode cX9_fitted 1 = .ok (.tableswitch 61 0 4 #[35, 40, 45, 61, 49], 35) := by decide +kernel
theorem dX9_fitted_36 : decode cX9_fitted 36 = .ok (.lload_n 1, 1) := by decide +kernel
theorem dX9_fitted_37 : decode cX9_fitted 37 = .ok (.l2i, 1) := by decide +kernel
theorem dX9_fitted_38 : decode cX9_fitted 38 = .ok (.i2b, 1) := by decide +kernel
theorem dX9_fitted_39 : decode cX9_fitted 39 = .ok (.i2l, 1) := by decide +kernel
theorem dX9_fitted_40 : decode cX9_fitted 40 = .ok (.lreturn, 1) := by decide +kernel
theorem dX9_fitted_41 : decode cX9_fitted 41 = .ok (.lload_n 1, 1) := by decide +kernel
theorem dX9_fitted_42 : decode cX9_fitted 42 = .ok (.l2i, 1) := by decide +kernel
theorem dX9_fitted_43 : decode cX9_fitted 43 = .ok (.i2s, 1) := by decide +kernel
theorem dX9_fitted_44 : decode cX9_fitted 44 = .ok (.i2l, 1) := by decide +kernel
theorem dX9_fitted_45 : decode cX9_fitted 45 = .ok (.lreturn, 1) := by decide +kernel
theorem dX9_fitted_46 : decode cX9_fitted 46 = .ok (.lload_n 1, 1) := by decide +kernel
theorem dX9_fitted_47 : decode cX9_fitted 47 = .ok (.l2i, 1) := by decide +kernel
theorem dX9_fitted_48 : decode cX9_fitted 48 = .ok (.i2l, 1) := by decide +kernel
theorem dX9_fitted_49 : decode cX9_fitted 49 = .ok (.lreturn, 1) := by decide +kernel
theorem dX9_fitted_50 : decode cX9_fitted 50 = .ok (.lload_n 1, 1) := by decide +kernel
theorem dX9_fitted_51 : decode cX9_fitted 51 = .ok (.lconst 0, 1) := by decide +kernel
theorem dX9_fitted_52 : decode cX9_fitted 52 = .ok (.lcmp, 1) := by decide +kernel
theorem dX9_fitted_53 : decode cX9_fitted 53 = .ok (.ifCond .eq 7, 3) := by decide +kernel
theorem dX9_fitted_56 : decode cX9_fitted 56 = .ok (.lconst 1, 1) := by decide +kernel
theorem dX9_fitted_57 : decode cX9_fitted 57 = .ok (.goto 4, 3) := by decide +kernel
theorem dX9_fitted_60 : decode cX9_fitted 60 = .ok (.lconst 0, 1) := by decide +kernel
theorem dX9_fitted_61 : decode cX9_fitted 61 = .ok (.lreturn, 1) := by decide +kernel
theorem dX9_fitted_62 : decode cX9_fitted 62 = .ok (.lload_n 1, 1) := by decide +kernel
theorem dX9_fitted_63 : decode cX9_fitted 63 = .ok (.lreturn, 1) := by decide +kernel
theorem dX9_areAlike_0 : decode cX9_areAlike 0 = .ok (.aload_n 0, 1) := by decide +kernel
theorem dX9_areAlike_1 : decode cX9_areAlike 1 = .ok (.iload_n 1, 1) := by decide +kernel
theorem dX9_areAlike_2 : decode cX9_areAlike 2 = .ok (.invokevirtual 42, 3) := by decide +kernel
theorem dX9_areAlike_5 : decode cX9_areAlike 5 = .ok (.ifCond .eq 30, 3) := by decide +kernel
theorem dX9_areAlike_8 : decode cX9_areAlike 8 = .ok (.aload_n 0, 1) := by decide +kernel
theorem dX9_areAlike_9 : decode cX9_areAlike 9 = .ok (.iload_n 2, 1) := by decide +kernel
theorem dX9_areAlike_10 : decode cX9_areAlike 10 = .ok (.invokevirtual 42, 3) := by decide +kernel
theorem dX9_areAlike_13 : decode cX9_areAlike 13 = .ok (.ifCond .eq 22, 3) := by decide +kernel
theorem dX9_areAlike_16 : decode cX9_areAlike 16 = .ok (.aload_n 0, 1) := by decide +kernel
theorem dX9_areAlike_17 : decode cX9_areAlike 17 = .ok (.getfield 11, 3) := by decide +kernel
theorem dX9_areAlike_20 : decode cX9_areAlike 20 = .ok (.iload_n 1, 1) := by decide +kernel
theorem dX9_areAlike_21 : decode cX9_areAlike 21 = .ok (.iaload, 1) := by decide +kernel
theorem dX9_areAlike_22 : decode cX9_areAlike 22 = .ok (.aload_n 0, 1) := by decide +kernel
theorem dX9_areAlike_23 : decode cX9_areAlike 23 = .ok (.getfield 11, 3) := by decide +kernel
theorem dX9_areAlike_26 : decode cX9_areAlike 26 = .ok (.iload_n 2, 1) := by decide +kernel
theorem dX9_areAlike_27 : decode cX9_areAlike 27 = .ok (.iaload, 1) := by decide +kernel
theorem dX9_areAlike_28 : decode cX9_areAlike 28 = .ok (.if_icmp .ne 7, 3) := by decide +kernel
theorem dX9_areAlike_31 : decode cX9_areAlike 31 = .ok (.iconst 1, 1) := by decide +kernel
theorem dX9_areAlike_32 : decode cX9_areAlike 32 = .ok (.goto 4, 3) := by decide +kernel
theorem dX9_areAlike_35 : decode cX9_areAlike 35 = .ok (.iconst 0, 1) := by decide +kernel
theorem dX9_areAlike_36 : decode cX9_areAlike 36 = .ok (.ireturn, 1) := by decide +kernel
theorem dX9_hasSpan_0 : decode cX9_hasSpan 0 = .ok (.aload_n 0, 1) := by decide +kernel
theorem dX9_hasSpan_1 : decode cX9_hasSpan 1 = .ok (.iload_n 1, 1) := by decide +kernel
theorem dX9_hasSpan_2 : decode cX9_hasSpan 2 = .ok (.invokevirtual 45, 3) := by decide +kernel
theorem dX9_hasSpan_5 : decode cX9_hasSpan 5 = .ok (.istore 4, 2) := by decide +kernel
theorem dX9_hasSpan_7 : decode cX9_hasSpan 7 = .ok (.iload_n 2, 1) := by decide +kernel
theorem dX9_hasSpan_8 : decode cX9_hasSpan 8 = .ok (.ifCond .lt 25, 3) := by decide +kernel
theorem dX9_hasSpan_11 : decode cX9_hasSpan 11 = .ok (.iload_n 2, 1) := by decide +kernel
theorem dX9_hasSpan_12 : decode cX9_hasSpan 12 = .ok (.iload 4, 2) := by decide +kernel
theorem dX9_hasSpan_14 : decode cX9_hasSpan 14 = .ok (.if_icmp .gt 19, 3) := by decide +kernel
theorem dX9_hasSpan_17 : decode cX9_hasSpan 17 = .ok (.iload_n 3, 1) := by decide +kernel
theorem dX9_hasSpan_18 : decode cX9_hasSpan 18 = .ok (.ifCond .lt 15, 3) := by decide +kernel
theorem dX9_hasSpan_21 : decode cX9_hasSpan 21 = .ok (.iload_n 3, 1) := by decide +kernel
theorem dX9_hasSpan_22 : decode cX9_hasSpan 22 = .ok (.iload 4, 2) := by decide +kernel
theorem dX9_hasSpan_24 : decode cX9_hasSpan 24 = .ok (.iload_n 2, 1) := by decide +kernel
theorem dX9_hasSpan_25 : decode cX9_hasSpan 25 = .ok (.isub, 1) := by decide +kernel
theorem dX9_hasSpan_26 : decode cX9_hasSpan 26 = .ok (.if_icmp .gt 7, 3) := by decide +kernel
theorem dX9_hasSpan_29 : decode cX9_hasSpan 29 = .ok (.iconst 1, 1) := by decide +kernel
theorem dX9_hasSpan_30 : decode cX9_hasSpan 30 = .ok (.goto 4, 3) := by decide +kernel
theorem dX9_hasSpan_33 : decode cX9_hasSpan 33 = .ok (.iconst 0, 1) := by decide +kernel
theorem dX9_hasSpan_34 : decode cX9_hasSpan 34 = .ok (.ireturn, 1) := by decide +kernel
theorem dX9_move_0 : decode cX9_move 0 = .ok (.aload_n 0, 1) := by decide +kernel
theorem dX9_move_1 : decode cX9_move 1 = .ok (.iload_n 1, 1) := by decide +kernel
theorem dX9_move_2 : decode cX9_move 2 = .ok (.iload_n 2, 1) := by decide +kernel
theorem dX9_move_3 : decode cX9_move 3 = .ok (.iload 5, 2) := by decide +kernel
theorem dX9_move_5 : decode cX9_move 5 = .ok (.invokevirtual 60, 3) := by decide +kernel
theorem dX9_move_8 : decode cX9_move 8 = .ok (.ifCond .eq 15, 3) := by decide +kernel
theorem dX9_move_11 : decode cX9_move 11 = .ok (.aload_n 0, 1) := by decide +kernel
theorem dX9_move_12 : decode cX9_move 12 = .ok (.iload_n 3, 1) := by decide +kernel
theorem dX9_move_13 : decode cX9_move 13 = .ok (.iload 4, 2) := by decide +kernel
theorem dX9_move_15 : decode cX9_move 15 = .ok (.iload 5, 2) := by decide +kernel
theorem dX9_move_17 : decode cX9_move 17 = .ok (.invokevirtual 60, 3) := by decide +kernel
theorem dX9_move_20 : decode cX9_move 20 = .ok (.ifCond .ne 4, 3) := by decide +kernel
theorem dX9_move_23 : decode cX9_move 23 = .ok (.return_, 1) := by decide +kernel
theorem dX9_move_24 : decode cX9_move 24 = .ok (.iload_n 1, 1) := by decide +kernel
theorem dX9_move_25 : decode cX9_move 25 = .ok (.invokestatic 32, 3) := by decide +kernel
theorem dX9_move_28 : decode cX9_move 28 = .ok (.ifCond .eq 10, 3) := by decide +kernel
theorem dX9_move_31 : decode cX9_move 31 = .ok (.iload_n 3, 1) := by decide +kernel
theorem dX9_move_32 : decode cX9_move 32 = .ok (.invokestatic 32, 3) := by decide +kernel
theorem dX9_move_35 : decode cX9_move 35 = .ok (.ifCond .ne 4, 3) := by decide +kernel
theorem dX9_move_38 : decode cX9_move 38 = .ok (.return_, 1) := by decide +kernel
theorem dX9_move_39 : decode cX9_move 39 = .ok (.aload_n 0, 1) := by decide +kernel
theorem dX9_move_40 : decode cX9_move 40 = .ok (.getfield 23, 3) := by decide +kernel
theorem dX9_move_43 : decode cX9_move 43 = .ok (.iload_n 1, 1) := by decide +kernel
theorem dX9_move_44 : decode cX9_move 44 = .ok (.aaload, 1) := by decide +kernel
theorem dX9_move_45 : decode cX9_move 45 = .ok (.iload_n 2, 1) := by decide +kernel
theorem dX9_move_46 : decode cX9_move 46 = .ok (.aload_n 0, 1) := by decide +kernel
theorem dX9_move_47 : decode cX9_move 47 = .ok (.getfield 23, 3) := by decide +kernel
theorem dX9_move_50 : decode cX9_move 50 = .ok (.iload_n 3, 1) := by decide +kernel
theorem dX9_move_51 : decode cX9_move 51 = .ok (.aaload, 1) := by decide +kernel
theorem dX9_move_52 : decode cX9_move 52 = .ok (.iload 4, 2) := by decide +kernel
theorem dX9_move_54 : decode cX9_move 54 = .ok (.iload 5, 2) := by decide +kernel
theorem dX9_move_56 : decode cX9_move 56 = .ok (.invokestatic 64, 3) := by decide +kernel
theorem dX9_move_59 : decode cX9_move 59 = .ok (.return_, 1) := by decide +kernel
theorem dX10_init_0 : decode cX10_init 0 = .ok (.aload_n 0, 1) := by decide +kernel
theorem dX10_init_1 : decode cX10_init 1 = .ok (.invokespecial 3, 3) := by decide +kernel
theorem dX10_init_4 : decode cX10_init 4 = .ok (.aload_n 0, 1) := by decide +kernel
theorem dX10_init_5 : decode cX10_init 5 = .ok (.aload_n 1, 1) := by decide +kernel
theorem dX10_init_6 : decode cX10_init 6 = .ok (.putfield 9, 3) := by decide +kernel
theorem dX10_init_9 : decode cX10_init 9 = .ok (.aload_n 0, 1) := by decide +kernel
theorem dX10_init_10 : decode cX10_init 10 = .ok (.aload_n 2, 1) := by decide +kernel
theorem dX10_init_11 : decode cX10_init 11 = .ok (.putfield 15, 3) := by decide +kernel
theorem dX10_init_14 : decode cX10_init 14 = .ok (.aload_n 0, 1) := by decide +kernel
theorem dX10_init_15 : decode cX10_init 15 = .ok (.new 19, 3) := by decide +kernel
theorem dX10_init_18 : decode cX10_init 18 = .ok (.dup, 1) := by decide +kernel
theorem dX10_init_19 : decode cX10_init 19 = .ok (.invokespecial 21, 3) := by decide +kernel
theorem dX10_init_22 : decode cX10_init 22 = .ok (.putfield 22, 3) := by decide +kernel
theorem dX10_init_25 : decode cX10_init 25 = .ok (.aload_n 0, 1) := by decide +kernel
theorem dX10_init_26 : decode cX10_init 26 = .ok (.bipush 10, 2) := by decide +kernel
theorem dX10_init_28 : decode cX10_init 28 = .ok (.newarray .int, 2) := by decide +kernel
theorem dX10_init_30 : decode cX10_init 30 = .ok (.putfield 26, 3) := by decide +kernel
theorem dX10_init_33 : decode cX10_init 33 = .ok (.aload_n 0, 1) := by decide +kernel
theorem dX10_init_34 : decode cX10_init 34 = .ok (.bipush 10, 2) := by decide +kernel
theorem dX10_init_36 : decode cX10_init 36 = .ok (.newarray .int, 2) := by decide +kernel
theorem dX10_init_38 : decode cX10_init 38 = .ok (.putfield 30, 3) := by decide +kernel
theorem dX10_init_41 : decode cX10_init 41 = .ok (.aload_n 0, 1) := by decide +kernel
theorem dX10_init_42 : decode cX10_init 42 = .ok (.iconst 0, 1) := by decide +kernel
theorem dX10_init_43 : decode cX10_init 43 = .ok (.putfield 33, 3) := by decide +kernel
theorem dX10_init_46 : decode cX10_init 46 = .ok (.aload_n 0, 1) := by decide +kernel
theorem dX10_init_47 : decode cX10_init 47 = .ok (.iconst 0, 1) := by decide +kernel
theorem dX10_init_48 : decode cX10_init 48 = .ok (.putfield 37, 3) := by decide +kernel
theorem dX10_init_51 : decode cX10_init 51 = .ok (.aload_n 0, 1) := by decide +kernel
theorem dX10_init_52 : decode cX10_init 52 = .ok (.bipush (-2), 2) := by decide +kernel
theorem dX10_init_54 : decode cX10_init 54 = .ok (.putfield 40, 3) := by decide +kernel
theorem dX10_init_57 : decode cX10_init 57 = .ok (.return_, 1) := by decide +kernel
theorem dX10_add_0 : decode cX10_add 0 = .ok (.aload_n 0, 1) := by decide +kernel
theorem dX10_add_1 : decode cX10_add 1 = .ok (.getfield 33, 3) := by decide +kernel
theorem dX10_add_4 : decode cX10_add 4 = .ok (.ifCond .lt 12, 3) := by decide +kernel
theorem dX10_add_7 : decode cX10_add 7 = .ok (.aload_n 0, 1) := by decide +kernel
theorem dX10_add_8 : decode cX10_add 8 = .ok (.getfield 33, 3) := by decide +kernel
theorem dX10_add_11 : decode cX10_add 11 = .ok (.bipush 10, 2) := by decide +kernel
theorem dX10_add_13 : decode cX10_add 13 = .ok (.if_icmp .lt 4, 3) := by decide +kernel
theorem dX10_add_16 : decode cX10_add 16 = .ok (.return_, 1) := by decide +kernel
theorem dX10_add_17 : decode cX10_add 17 = .ok (.aload_n 0, 1) := by decide +kernel
theorem dX10_add_18 : decode cX10_add 18 = .ok (.getfield 26, 3) := by decide +kernel
theorem dX10_add_21 : decode cX10_add 21 = .ok (.aload_n 0, 1) := by decide +kernel
theorem dX10_add_22 : decode cX10_add 22 = .ok (.getfield 33, 3) := by decide +kernel
theorem dX10_add_25 : decode cX10_add 25 = .ok (.iload_n 1, 1) := by decide +kernel
theorem dX10_add_26 : decode cX10_add 26 = .ok (.iastore, 1) := by decide +kernel
theorem dX10_add_27 : decode cX10_add 27 = .ok (.aload_n 0, 1) := by decide +kernel
theorem dX10_add_28 : decode cX10_add 28 = .ok (.dup, 1) := by decide +kernel
theorem dX10_add_29 : decode cX10_add 29 = .ok (.getfield 33, 3) := by decide +kernel
theorem dX10_add_32 : decode cX10_add 32 = .ok (.iconst 1, 1) := by decide +kernel
theorem dX10_add_33 : decode cX10_add 33 = .ok (.iadd, 1) := by decide +kernel
theorem dX10_add_34 : decode cX10_add 34 = .ok (.putfield 33, 3) := by decide +kernel
theorem dX10_add_37 : decode cX10_add 37 = .ok (.return_, 1) := by decide +kernel
theorem dX10_goerAt_0 : decode cX10_goerAt 0 = .ok (.iload_n 1, 1) := by decide +kernel
theorem dX10_goerAt_1 : decode cX10_goerAt 1 = .ok (.ifCond .lt 26, 3) := by decide +kernel
theorem dX10_goerAt_4 : decode cX10_goerAt 4 = .ok (.iload_n 1, 1) := by decide +kernel
theorem dX10_goerAt_5 : decode cX10_goerAt 5 = .ok (.aload_n 0, 1) := by decide +kernel
theorem dX10_goerAt_6 : decode cX10_goerAt 6 = .ok (.getfield 33, 3) := by decide +kernel
theorem dX10_goerAt_9 : decode cX10_goerAt 9 = .ok (.if_icmp .ge 18, 3) := by decide +kernel
theorem dX10_goerAt_12 : decode cX10_goerAt 12 = .ok (.iload_n 1, 1) := by decide +kernel
theorem dX10_goerAt_13 : decode cX10_goerAt 13 = .ok (.bipush 10, 2) := by decide +kernel
theorem dX10_goerAt_15 : decode cX10_goerAt 15 = .ok (.if_icmp .ge 12, 3) := by decide +kernel
theorem dX10_goerAt_18 : decode cX10_goerAt 18 = .ok (.aload_n 0, 1) := by decide +kernel
theorem dX10_goerAt_19 : decode cX10_goerAt 19 = .ok (.getfield 26, 3) := by decide +kernel
theorem dX10_goerAt_22 : decode cX10_goerAt 22 = .ok (.iload_n 1, 1) := by decide +kernel
theorem dX10_goerAt_23 : decode cX10_goerAt 23 = .ok (.iaload, 1) := by decide +kernel
theorem dX10_goerAt_24 : decode cX10_goerAt 24 = .ok (.goto 4, 3) := by decide +kernel
theorem dX10_goerAt_27 : decode cX10_goerAt 27 = .ok (.iconst 0, 1) := by decide +kernel
theorem dX10_goerAt_28 : decode cX10_goerAt 28 = .ok (.ireturn, 1) := by decide +kernel
theorem dX10_readOrder_0 : decode cX10_readOrder 0 = .ok (.aload_n 0, 1) := by decide +kernel
theorem dX10_readOrder_1 : decode cX10_readOrder 1 = .ok (.iconst 0, 1) := by decide +kernel
theorem dX10_readOrder_2 : decode cX10_readOrder 2 = .ok (.putfield 33, 3) := by decide +kernel
theorem dX10_readOrder_5 : decode cX10_readOrder 5 = .ok (.iload_n 3, 1) := by decide +kernel
theorem dX10_readOrder_6 : decode cX10_readOrder 6 = .ok (.aload_n 1, 1) := by decide +kernel
theorem dX10_readOrder_7 : decode cX10_readOrder 7 = .ok (.iload_n 2, 1) := by decide +kernel
theorem dX10_readOrder_8 : decode cX10_readOrder 8 = .ok (.invokevirtual 43, 3) := by decide +kernel
theorem dX10_readOrder_11 : decode cX10_readOrder 11 = .ok (.invokestatic 49, 3) := by decide +kernel
theorem dX10_readOrder_14 : decode cX10_readOrder 14 = .ok (.istore 4, 2) := by decide +kernel
theorem dX10_readOrder_16 : decode cX10_readOrder 16 = .ok (.iconst 0, 1) := by decide +kernel
theorem dX10_readOrder_17 : decode cX10_readOrder 17 = .ok (.istore 5, 2) := by decide +kernel
theorem dX10_readOrder_19 : decode cX10_readOrder 19 = .ok (.iload 5, 2) := by decide +kernel
theorem dX10_readOrder_21 : decode cX10_readOrder 21 = .ok (.iload 4, 2) := by decide +kernel
theorem dX10_readOrder_23 : decode cX10_readOrder 23 = .ok (.if_icmp .ge 42, 3) := by decide +kernel
theorem dX10_readOrder_26 : decode cX10_readOrder 26 = .ok (.aload_n 1, 1) := by decide +kernel
theorem dX10_readOrder_27 : decode cX10_readOrder 27 = .ok (.iload_n 2, 1) := by decide +kernel
theorem dX10_readOrder_28 : decode cX10_readOrder 28 = .ok (.iload 5, 2) := by decide +kernel
theorem dX10_readOrder_30 : decode cX10_readOrder 30 = .ok (.invokevirtual 55, 3) := by decide +kernel
theorem dX10_readOrder_33 : decode cX10_readOrder 33 = .ok (.istore 6, 2) := by decide +kernel
theorem dX10_readOrder_35 : decode cX10_readOrder 35 = .ok (.iload 6, 2) := by decide +kernel
theorem dX10_readOrder_37 : decode cX10_readOrder 37 = .ok (.ifCond .lt 15, 3) := by decide +kernel
theorem dX10_readOrder_40 : decode cX10_readOrder 40 = .ok (.iload 6, 2) := by decide +kernel
theorem dX10_readOrder_42 : decode cX10_readOrder 42 = .ok (.aload_n 0, 1) := by decide +kernel
theorem dX10_readOrder_43 : decode cX10_readOrder 43 = .ok (.getfield 9, 3) := by decide +kernel
theorem dX10_readOrder_46 : decode cX10_readOrder 46 = .ok (.getfield 58, 3) := by decide +kernel
theorem dX10_readOrder_49 : decode cX10_readOrder 49 = .ok (.if_icmp .lt 4, 3) := by decide +kernel
theorem dX10_readOrder_52 : decode cX10_readOrder 52 = .ok (.return_, 1) := by decide +kernel
theorem dX10_readOrder_53 : decode cX10_readOrder 53 = .ok (.aload_n 0, 1) := by decide +kernel
theorem dX10_readOrder_54 : decode cX10_readOrder 54 = .ok (.iload 6, 2) := by decide +kernel
theorem dX10_readOrder_56 : decode cX10_readOrder 56 = .ok (.invokevirtual 63, 3) := by decide +kernel
theorem dX10_readOrder_59 : decode cX10_readOrder 59 = .ok (.iinc 5 1, 3) := by decide +kernel
theorem dX10_readOrder_62 : decode cX10_readOrder 62 = .ok (.goto (-43), 3) := by decide +kernel
theorem dX10_readOrder_65 : decode cX10_readOrder 65 = .ok (.return_, 1) := by decide +kernel
theorem dX10_alone_0 : decode cX10_alone 0 = .ok (.aload_n 0, 1) := by decide +kernel
theorem dX10_alone_1 : decode cX10_alone 1 = .ok (.iconst 0, 1) := by decide +kernel
theorem dX10_alone_2 : decode cX10_alone 2 = .ok (.putfield 33, 3) := by decide +kernel
theorem dX10_alone_5 : decode cX10_alone 5 = .ok (.aload_n 0, 1) := by decide +kernel
theorem dX10_alone_6 : decode cX10_alone 6 = .ok (.iload_n 1, 1) := by decide +kernel
theorem dX10_alone_7 : decode cX10_alone 7 = .ok (.invokevirtual 63, 3) := by decide +kernel
theorem dX10_alone_10 : decode cX10_alone 10 = .ok (.return_, 1) := by decide +kernel
theorem dX10_bySet_0 : decode cX10_bySet 0 = .ok (.aload_n 0, 1) := by decide +kernel
theorem dX10_bySet_1 : decode cX10_bySet 1 = .ok (.iconst 0, 1) := by decide +kernel
theorem dX10_bySet_2 : decode cX10_bySet 2 = .ok (.putfield 33, 3) := by decide +kernel
theorem dX10_bySet_5 : decode cX10_bySet 5 = .ok (.iconst 0, 1) := by decide +kernel
theorem dX10_bySet_6 : decode cX10_bySet 6 = .ok (.istore_n 2, 1) := by decide +kernel
theorem dX10_bySet_7 : decode cX10_bySet 7 = .ok (.iload_n 2, 1) := by decide +kernel
theorem dX10_bySet_8 : decode cX10_bySet 8 = .ok (.aload_n 0, 1) := by decide +kernel
theorem dX10_bySet_9 : decode cX10_bySet 9 = .ok (.getfield 9, 3) := by decide +kernel
theorem dX10_bySet_12 : decode cX10_bySet 12 = .ok (.getfield 58, 3) := by decide +kernel
theorem dX10_bySet_15 : decode cX10_bySet 15 = .ok (.if_icmp .ge 23, 3) := by decide +kernel
theorem dX10_bySet_18 : decode cX10_bySet 18 = .ok (.iload_n 1, 1) := by decide +kernel
theorem dX10_bySet_19 : decode cX10_bySet 19 = .ok (.iload_n 2, 1) := by decide +kernel
theorem dX10_bySet_20 : decode cX10_bySet 20 = .ok (.ishr, 1) := by decide +kernel
theorem dX10_bySet_21 : decode cX10_bySet 21 = .ok (.iconst 1, 1) := by decide +kernel
theorem dX10_bySet_22 : decode cX10_bySet 22 = .ok (.iand, 1) := by decide +kernel
theorem dX10_bySet_23 : decode cX10_bySet 23 = .ok (.iconst 1, 1) := by decide +kernel
theorem dX10_bySet_24 : decode cX10_bySet 24 = .ok (.if_icmp .ne 8, 3) := by decide +kernel
theorem dX10_bySet_27 : decode cX10_bySet 27 = .ok (.aload_n 0, 1) := by decide +kernel
theorem dX10_bySet_28 : decode cX10_bySet 28 = .ok (.iload_n 2, 1) := by decide +kernel
theorem dX10_bySet_29 : decode cX10_bySet 29 = .ok (.invokevirtual 63, 3) := by decide +kernel
theorem dX10_bySet_32 : decode cX10_bySet 32 = .ok (.iinc 2 1, 3) := by decide +kernel
theorem dX10_bySet_35 : decode cX10_bySet 35 = .ok (.goto (-28), 3) := by decide +kernel
theorem dX10_bySet_38 : decode cX10_bySet 38 = .ok (.return_, 1) := by decide +kernel
theorem dX10_byNumbers_0 : decode cX10_byNumbers 0 = .ok (.aload_n 0, 1) := by decide +kernel
theorem dX10_byNumbers_1 : decode cX10_byNumbers 1 = .ok (.iconst 3, 1) := by decide +kernel
theorem dX10_byNumbers_2 : decode cX10_byNumbers 2 = .ok (.invokevirtual 67, 3) := by decide +kernel
theorem dX10_byNumbers_5 : decode cX10_byNumbers 5 = .ok (.return_, 1) := by decide +kernel
theorem dX10_byRule_0 : decode cX10_byRule 0 = .ok (.aload_n 0, 1) := by decide +kernel
theorem dX10_byRule_1 : decode cX10_byRule 1 = .ok (.iconst 0, 1) := by decide +kernel
theorem dX10_byRule_2 : decode cX10_byRule 2 = .ok (.putfield 33, 3) := by decide +kernel
theorem dX10_byRule_5 : decode cX10_byRule 5 = .ok (.iconst 0, 1) := by decide +kernel
theorem dX10_byRule_6 : decode cX10_byRule 6 = .ok (.istore_n 2, 1) := by decide +kernel
theorem dX10_byRule_7 : decode cX10_byRule 7 = .ok (.iload_n 2, 1) := by decide +kernel
theorem dX10_byRule_8 : decode cX10_byRule 8 = .ok (.aload_n 0, 1) := by decide +kernel
theorem dX10_byRule_9 : decode cX10_byRule 9 = .ok (.getfield 9, 3) := by decide +kernel
theorem dX10_byRule_12 : decode cX10_byRule 12 = .ok (.getfield 58, 3) := by decide +kernel
theorem dX10_byRule_15 : decode cX10_byRule 15 = .ok (.if_icmp .ge 75, 3) := by decide +kernel
theorem dX10_byRule_18 : decode cX10_byRule 18 = .ok (.aload_n 0, 1) := by decide +kernel
theorem dX10_byRule_19 : decode cX10_byRule 19 = .ok (.iload_n 2, 1) := by decide +kernel
theorem dX10_byRule_20 : decode cX10_byRule 20 = .ok (.invokevirtual 63, 3) := by decide +kernel
theorem dX10_byRule_23 : decode cX10_byRule 23 = .ok (.aload_n 0, 1) := by decide +kernel
theorem dX10_byRule_24 : decode cX10_byRule 24 = .ok (.getfield 33, 3) := by decide +kernel
theorem dX10_byRule_27 : decode cX10_byRule 27 = .ok (.iconst 1, 1) := by decide +kernel
theorem dX10_byRule_28 : decode cX10_byRule 28 = .ok (.isub, 1) := by decide +kernel
theorem dX10_byRule_29 : decode cX10_byRule 29 = .ok (.istore_n 3, 1) := by decide +kernel
theorem dX10_byRule_30 : decode cX10_byRule 30 = .ok (.iload_n 3, 1) := by decide +kernel
theorem dX10_byRule_31 : decode cX10_byRule 31 = .ok (.ifCond .le 53, 3) := by decide +kernel
theorem dX10_byRule_34 : decode cX10_byRule 34 = .ok (.aload_n 0, 1) := by decide +kernel
theorem dX10_byRule_35 : decode cX10_byRule 35 = .ok (.aload_n 0, 1) := by decide +kernel
theorem dX10_byRule_36 : decode cX10_byRule 36 = .ok (.iload_n 3, 1) := by decide +kernel
theorem dX10_byRule_37 : decode cX10_byRule 37 = .ok (.iconst 1, 1) := by decide +kernel
theorem dX10_byRule_38 : decode cX10_byRule 38 = .ok (.isub, 1) := by decide +kernel
theorem dX10_byRule_39 : decode cX10_byRule 39 = .ok (.invokevirtual 70, 3) := by decide +kernel
theorem dX10_byRule_42 : decode cX10_byRule 42 = .ok (.iload_n 1, 1) := by decide +kernel
theorem dX10_byRule_43 : decode cX10_byRule 43 = .ok (.invokevirtual 73, 3) := by decide +kernel
theorem dX10_byRule_46 : decode cX10_byRule 46 = .ok (.aload_n 0, 1) := by decide +kernel
theorem dX10_byRule_47 : decode cX10_byRule 47 = .ok (.iload_n 2, 1) := by decide +kernel
theorem dX10_byRule_48 : decode cX10_byRule 48 = .ok (.iload_n 1, 1) := by decide +kernel
theorem dX10_byRule_49 : decode cX10_byRule 49 = .ok (.invokevirtual 73, 3) := by decide +kernel
theorem dX10_byRule_52 : decode cX10_byRule 52 = .ok (.if_icmp .le 32, 3) := by decide +kernel
theorem dX10_byRule_55 : decode cX10_byRule 55 = .ok (.aload_n 0, 1) := by decide +kernel
theorem dX10_byRule_56 : decode cX10_byRule 56 = .ok (.getfield 26, 3) := by decide +kernel
theorem dX10_byRule_59 : decode cX10_byRule 59 = .ok (.iload_n 3, 1) := by decide +kernel
theorem dX10_byRule_60 : decode cX10_byRule 60 = .ok (.aload_n 0, 1) := by decide +kernel
theorem dX10_byRule_61 : decode cX10_byRule 61 = .ok (.getfield 26, 3) := by decide +kernel
theorem dX10_byRule_64 : decode cX10_byRule 64 = .ok (.iload_n 3, 1) := by decide +kernel
theorem dX10_byRule_65 : decode cX10_byRule 65 = .ok (.iconst 1, 1) := by decide +kernel
theorem dX10_byRule_66 : decode cX10_byRule 66 = .ok (.isub, 1) := by decide +kernel
theorem dX10_byRule_67 : decode cX10_byRule 67 = .ok (.iaload, 1) := by decide +kernel
theorem dX10_byRule_68 : decode cX10_byRule 68 = .ok (.iastore, 1) := by decide +kernel
theorem dX10_byRule_69 : decode cX10_byRule 69 = .ok (.aload_n 0, 1) := by decide +kernel
theorem dX10_byRule_70 : decode cX10_byRule 70 = .ok (.getfield 26, 3) := by decide +kernel
theorem dX10_byRule_73 : decode cX10_byRule 73 = .ok (.iload_n 3, 1) := by decide +kernel
theorem dX10_byRule_74 : decode cX10_byRule 74 = .ok (.iconst 1, 1) := by decide +kernel
theorem dX10_byRule_75 : decode cX10_byRule 75 = .ok (.isub, 1) := by decide +kernel
theorem dX10_byRule_76 : decode cX10_byRule 76 = .ok (.iload_n 2, 1) := by decide +kernel
theorem dX10_byRule_77 : decode cX10_byRule 77 = .ok (.iastore, 1) := by decide +kernel
theorem dX10_byRule_78 : decode cX10_byRule 78 = .ok (.iinc 3 (-1), 3) := by decide +kernel
theorem dX10_byRule_81 : decode cX10_byRule 81 = .ok (.goto (-51), 3) := by decide +kernel
theorem dX10_byRule_84 : decode cX10_byRule 84 = .ok (.iinc 2 1, 3) := by decide +kernel
theorem dX10_byRule_87 : decode cX10_byRule 87 = .ok (.goto (-80), 3) := by decide +kernel
theorem dX10_byRule_90 : decode cX10_byRule 90 = .ok (.return_, 1) := by decide +kernel
theorem dX10_rank_0 : decode cX10_rank 0 = .ok (.aload_n 0, 1) := by decide +kernel
theorem dX10_rank_1 : decode cX10_rank 1 = .ok (.getfield 9, 3) := by decide +kernel
theorem dX10_rank_4 : decode cX10_rank 4 = .ok (.iload_n 1, 1) := by decide +kernel
theorem dX10_rank_5 : decode cX10_rank 5 = .ok (.iconst 4, 1) := by decide +kernel
theorem dX10_rank_6 : decode cX10_rank 6 = .ok (.invokevirtual 76, 3) := by decide +kernel
theorem dX10_rank_9 : decode cX10_rank 9 = .ok (.istore_n 3, 1) := by decide +kernel
theorem dX10_rank_10 : decode cX10_rank 10 = .ok (.iload_n 2, 1) := by decide +kernel
theorem dX10_rank_11 : decode cX10_rank 11 = .ok (.tableswitch 43 0 2 #[25, 27, 30], 25) := by decide +kernel
theorem dX10_rank_36 : decode cX10_rank 36 = .ok (.iload_n 3, 1) := by decide +kernel
theorem dX10_rank_37 : decode cX10_rank 37 = .ok (.ireturn, 1) := by decide +kernel
theorem dX10_rank_38 : decode cX10_rank 38 = .ok (.iload_n 3, 1) := by decide +kernel
theorem dX10_rank_39 : decode cX10_rank 39 = .ok (.ineg, 1) := by decide +kernel
theorem dX10_rank_40 : decode cX10_rank 40 = .ok (.ireturn, 1) := by decide +kernel
theorem dX10_rank_41 : decode cX10_rank 41 = .ok (.aload_n 0, 1) := by decide +kernel
theorem dX10_rank_42 : decode cX10_rank 42 = .ok (.getfield 9, 3) := by decide +kernel
theorem dX10_rank_45 : decode cX10_rank 45 = .ok (.iload_n 1, 1) := by decide +kernel
theorem dX10_rank_46 : decode cX10_rank 46 = .ok (.bipush 6, 2) := by decide +kernel
theorem dX10_rank_48 : decode cX10_rank 48 = .ok (.invokevirtual 76, 3) := by decide +kernel
theorem dX10_rank_51 : decode cX10_rank 51 = .ok (.iload_n 3, 1) := by decide +kernel
theorem dX10_rank_52 : decode cX10_rank 52 = .ok (.isub, 1) := by decide +kernel
theorem dX10_rank_53 : decode cX10_rank 53 = .ok (.ireturn, 1) := by decide +kernel
theorem dX10_rank_54 : decode cX10_rank 54 = .ok (.iconst 0, 1) := by decide +kernel
theorem dX10_rank_55 : decode cX10_rank 55 = .ok (.ireturn, 1) := by decide +kernel
theorem dX10_walk_0 : decode cX10_walk 0 = .ok (.aload_n 0, 1) := by decide +kernel
theorem dX10_walk_1 : decode cX10_walk 1 = .ok (.iconst 0, 1) := by decide +kernel
theorem dX10_walk_2 : decode cX10_walk 2 = .ok (.putfield 37, 3) := by decide +kernel
theorem dX10_walk_5 : decode cX10_walk 5 = .ok (.aload_n 0, 1) := by decide +kernel
theorem dX10_walk_6 : decode cX10_walk 6 = .ok (.bipush (-2), 2) := by decide +kernel
theorem dX10_walk_8 : decode cX10_walk 8 = .ok (.putfield 40, 3) := by decide +kernel
theorem dX10_walk_11 : decode cX10_walk 11 = .ok (.iconst 0, 1) := by decide +kernel
theorem dX10_walk_12 : decode cX10_walk 12 = .ok (.istore_n 2, 1) := by decide +kernel
theorem dX10_walk_13 : decode cX10_walk 13 = .ok (.iload_n 2, 1) := by decide +kernel
theorem dX10_walk_14 : decode cX10_walk 14 = .ok (.aload_n 0, 1) := by decide +kernel
theorem dX10_walk_15 : decode cX10_walk 15 = .ok (.getfield 33, 3) := by decide +kernel
theorem dX10_walk_18 : decode cX10_walk 18 = .ok (.if_icmp .ge 61, 3) := by decide +kernel
theorem dX10_walk_21 : decode cX10_walk 21 = .ok (.aload_n 0, 1) := by decide +kernel
theorem dX10_walk_22 : decode cX10_walk 22 = .ok (.getfield 15, 3) := by decide +kernel
theorem dX10_walk_25 : decode cX10_walk 25 = .ok (.aload_n 0, 1) := by decide +kernel
theorem dX10_walk_26 : decode cX10_walk 26 = .ok (.getfield 22, 3) := by decide +kernel
theorem dX10_walk_29 : decode cX10_walk 29 = .ok (.iload_n 1, 1) := by decide +kernel
theorem dX10_walk_30 : decode cX10_walk 30 = .ok (.aload_n 0, 1) := by decide +kernel
theorem dX10_walk_31 : decode cX10_walk 31 = .ok (.iload_n 2, 1) := by decide +kernel
theorem dX10_walk_32 : decode cX10_walk 32 = .ok (.invokevirtual 70, 3) := by decide +kernel
theorem dX10_walk_35 : decode cX10_walk 35 = .ok (.iconst 0, 1) := by decide +kernel
theorem dX10_walk_36 : decode cX10_walk 36 = .ok (.iconst 0, 1) := by decide +kernel
theorem dX10_walk_37 : decode cX10_walk 37 = .ok (.invokevirtual 79, 3) := by decide +kernel
theorem dX10_walk_40 : decode cX10_walk 40 = .ok (.istore_n 3, 1) := by decide +kernel
theorem dX10_walk_41 : decode cX10_walk 41 = .ok (.iload_n 3, 1) := by decide +kernel
theorem dX10_walk_42 : decode cX10_walk 42 = .ok (.iconst (-1), 1) := by decide +kernel
theorem dX10_walk_43 : decode cX10_walk 43 = .ok (.if_icmp .ne 16, 3) := by decide +kernel
theorem dX10_walk_46 : decode cX10_walk 46 = .ok (.aload_n 0, 1) := by decide +kernel
theorem dX10_walk_47 : decode cX10_walk 47 = .ok (.dup, 1) := by decide +kernel
theorem dX10_walk_48 : decode cX10_walk 48 = .ok (.getfield 37, 3) := by decide +kernel
theorem dX10_walk_51 : decode cX10_walk 51 = .ok (.iconst 1, 1) := by decide +kernel
theorem dX10_walk_52 : decode cX10_walk 52 = .ok (.iadd, 1) := by decide +kernel
theorem dX10_walk_53 : decode cX10_walk 53 = .ok (.putfield 37, 3) := by decide +kernel
theorem dX10_walk_56 : decode cX10_walk 56 = .ok (.goto 17, 3) := by decide +kernel
theorem dX10_walk_59 : decode cX10_walk 59 = .ok (.aload_n 0, 1) := by decide +kernel
theorem dX10_walk_60 : decode cX10_walk 60 = .ok (.getfield 40, 3) := by decide +kernel
theorem dX10_walk_63 : decode cX10_walk 63 = .ok (.bipush (-2), 2) := by decide +kernel
theorem dX10_walk_65 : decode cX10_walk 65 = .ok (.if_icmp .ne 8, 3) := by decide +kernel
theorem dX10_walk_68 : decode cX10_walk 68 = .ok (.aload_n 0, 1) := by decide +kernel
theorem dX10_walk_69 : decode cX10_walk 69 = .ok (.iload_n 2, 1) := by decide +kernel
theorem dX10_walk_70 : decode cX10_walk 70 = .ok (.putfield 40, 3) := by decide +kernel
theorem dX10_walk_73 : decode cX10_walk 73 = .ok (.iinc 2 1, 3) := by decide +kernel
theorem dX10_walk_76 : decode cX10_walk 76 = .ok (.goto (-63), 3) := by decide +kernel
theorem dX10_walk_79 : decode cX10_walk 79 = .ok (.return_, 1) := by decide +kernel
theorem dX10_walkWaiting_0 : decode cX10_walkWaiting 0 = .ok (.iconst 0, 1) := by decide +kernel
theorem dX10_walkWaiting_1 : decode cX10_walkWaiting 1 = .ok (.istore_n 2, 1) := by decide +kernel
theorem dX10_walkWaiting_2 : decode cX10_walkWaiting 2 = .ok (.iload_n 2, 1) := by decide +kernel
theorem dX10_walkWaiting_3 : decode cX10_walkWaiting 3 = .ok (.aload_n 0, 1) := by decide +kernel
theorem dX10_walkWaiting_4 : decode cX10_walkWaiting 4 = .ok (.getfield 33, 3) := by decide +kernel
theorem dX10_walkWaiting_7 : decode cX10_walkWaiting 7 = .ok (.if_icmp .ge 86, 3) := by decide +kernel
theorem dX10_walkWaiting_10 : decode cX10_walkWaiting 10 = .ok (.iload_n 2, 1) := by decide +kernel
theorem dX10_walkWaiting_11 : decode cX10_walkWaiting 11 = .ok (.bipush 10, 2) := by decide +kernel
theorem dX10_walkWaiting_13 : decode cX10_walkWaiting 13 = .ok (.if_icmp .ge 80, 3) := by decide +kernel
theorem dX10_walkWaiting_16 : decode cX10_walkWaiting 16 = .ok (.aload_n 0, 1) := by decide +kernel
theorem dX10_walkWaiting_17 : decode cX10_walkWaiting 17 = .ok (.getfield 15, 3) := by decide +kernel
theorem dX10_walkWaiting_20 : decode cX10_walkWaiting 20 = .ok (.aload_n 0, 1) := by decide +kernel
theorem dX10_walkWaiting_21 : decode cX10_walkWaiting 21 = .ok (.getfield 22, 3) := by decide +kernel
theorem dX10_walkWaiting_24 : decode cX10_walkWaiting 24 = .ok (.iload_n 1, 1) := by decide +kernel
theorem dX10_walkWaiting_25 : decode cX10_walkWaiting 25 = .ok (.aload_n 0, 1) := by decide +kernel
theorem dX10_walkWaiting_26 : decode cX10_walkWaiting 26 = .ok (.iload_n 2, 1) := by decide +kernel
theorem dX10_walkWaiting_27 : decode cX10_walkWaiting 27 = .ok (.invokevirtual 70, 3) := by decide +kernel
theorem dX10_walkWaiting_30 : decode cX10_walkWaiting 30 = .ok (.invokevirtual 85, 3) := by decide +kernel
theorem dX10_walkWaiting_33 : decode cX10_walkWaiting 33 = .ok (.istore_n 3, 1) := by decide +kernel
theorem dX10_walkWaiting_34 : decode cX10_walkWaiting 34 = .ok (.aload_n 0, 1) := by decide +kernel
theorem dX10_walkWaiting_35 : decode cX10_walkWaiting 35 = .ok (.getfield 30, 3) := by decide +kernel
theorem dX10_walkWaiting_38 : decode cX10_walkWaiting 38 = .ok (.iload_n 2, 1) := by decide +kernel
theorem dX10_walkWaiting_39 : decode cX10_walkWaiting 39 = .ok (.iload_n 3, 1) := by decide +kernel
theorem dX10_walkWaiting_40 : decode cX10_walkWaiting 40 = .ok (.iconst (-1), 1) := by decide +kernel
theorem dX10_walkWaiting_41 : decode cX10_walkWaiting 41 = .ok (.if_icmp .ne 7, 3) := by decide +kernel
theorem dX10_walkWaiting_44 : decode cX10_walkWaiting 44 = .ok (.iconst 0, 1) := by decide +kernel
theorem dX10_walkWaiting_45 : decode cX10_walkWaiting 45 = .ok (.goto 4, 3) := by decide +kernel
theorem dX10_walkWaiting_48 : decode cX10_walkWaiting 48 = .ok (.iload_n 3, 1) := by decide +kernel
theorem dX10_walkWaiting_49 : decode cX10_walkWaiting 49 = .ok (.iastore, 1) := by decide +kernel
theorem dX10_walkWaiting_50 : decode cX10_walkWaiting 50 = .ok (.aload_n 0, 1) := by decide +kernel
theorem dX10_walkWaiting_51 : decode cX10_walkWaiting 51 = .ok (.getfield 15, 3) := by decide +kernel
theorem dX10_walkWaiting_54 : decode cX10_walkWaiting 54 = .ok (.aload_n 0, 1) := by decide +kernel
theorem dX10_walkWaiting_55 : decode cX10_walkWaiting 55 = .ok (.getfield 22, 3) := by decide +kernel
theorem dX10_walkWaiting_58 : decode cX10_walkWaiting 58 = .ok (.aload_n 0, 1) := by decide +kernel
theorem dX10_walkWaiting_59 : decode cX10_walkWaiting 59 = .ok (.getfield 30, 3) := by decide +kernel
theorem dX10_walkWaiting_62 : decode cX10_walkWaiting 62 = .ok (.iload_n 2, 1) := by decide +kernel
theorem dX10_walkWaiting_63 : decode cX10_walkWaiting 63 = .ok (.iaload, 1) := by decide +kernel
theorem dX10_walkWaiting_64 : decode cX10_walkWaiting 64 = .ok (.invokevirtual 89, 3) := by decide +kernel
theorem dX10_walkWaiting_67 : decode cX10_walkWaiting 67 = .ok (.aload_n 0, 1) := by decide +kernel
theorem dX10_walkWaiting_68 : decode cX10_walkWaiting 68 = .ok (.getfield 15, 3) := by decide +kernel
theorem dX10_walkWaiting_71 : decode cX10_walkWaiting 71 = .ok (.aload_n 0, 1) := by decide +kernel
theorem dX10_walkWaiting_72 : decode cX10_walkWaiting 72 = .ok (.getfield 22, 3) := by decide +kernel
theorem dX10_walkWaiting_75 : decode cX10_walkWaiting 75 = .ok (.iload_n 1, 1) := by decide +kernel
theorem dX10_walkWaiting_76 : decode cX10_walkWaiting 76 = .ok (.aload_n 0, 1) := by decide +kernel
theorem dX10_walkWaiting_77 : decode cX10_walkWaiting 77 = .ok (.iload_n 2, 1) := by decide +kernel
theorem dX10_walkWaiting_78 : decode cX10_walkWaiting 78 = .ok (.invokevirtual 70, 3) := by decide +kernel
theorem dX10_walkWaiting_81 : decode cX10_walkWaiting 81 = .ok (.iconst 0, 1) := by decide +kernel
theorem dX10_walkWaiting_82 : decode cX10_walkWaiting 82 = .ok (.iconst 0, 1) := by decide +kernel
theorem dX10_walkWaiting_83 : decode cX10_walkWaiting 83 = .ok (.invokevirtual 79, 3) := by decide +kernel
theorem dX10_walkWaiting_86 : decode cX10_walkWaiting 86 = .ok (.pop, 1) := by decide +kernel
theorem dX10_walkWaiting_87 : decode cX10_walkWaiting 87 = .ok (.iinc 2 1, 3) := by decide +kernel
theorem dX10_walkWaiting_90 : decode cX10_walkWaiting 90 = .ok (.goto (-88), 3) := by decide +kernel
theorem dX10_walkWaiting_93 : decode cX10_walkWaiting 93 = .ok (.return_, 1) := by decide +kernel
theorem dX10_waitOf_0 : decode cX10_waitOf 0 = .ok (.iload_n 1, 1) := by decide +kernel
theorem dX10_waitOf_1 : decode cX10_waitOf 1 = .ok (.ifCond .lt 26, 3) := by decide +kernel
theorem dX10_waitOf_4 : decode cX10_waitOf 4 = .ok (.iload_n 1, 1) := by decide +kernel
theorem dX10_waitOf_5 : decode cX10_waitOf 5 = .ok (.aload_n 0, 1) := by decide +kernel
theorem dX10_waitOf_6 : decode cX10_waitOf 6 = .ok (.getfield 33, 3) := by decide +kernel
theorem dX10_waitOf_9 : decode cX10_waitOf 9 = .ok (.if_icmp .ge 18, 3) := by decide +kernel
theorem dX10_waitOf_12 : decode cX10_waitOf 12 = .ok (.iload_n 1, 1) := by decide +kernel
theorem dX10_waitOf_13 : decode cX10_waitOf 13 = .ok (.bipush 10, 2) := by decide +kernel
theorem dX10_waitOf_15 : decode cX10_waitOf 15 = .ok (.if_icmp .ge 12, 3) := by decide +kernel
theorem dX10_waitOf_18 : decode cX10_waitOf 18 = .ok (.aload_n 0, 1) := by decide +kernel
theorem dX10_waitOf_19 : decode cX10_waitOf 19 = .ok (.getfield 30, 3) := by decide +kernel
theorem dX10_waitOf_22 : decode cX10_waitOf 22 = .ok (.iload_n 1, 1) := by decide +kernel
theorem dX10_waitOf_23 : decode cX10_waitOf 23 = .ok (.iaload, 1) := by decide +kernel
theorem dX10_waitOf_24 : decode cX10_waitOf 24 = .ok (.goto 5, 3) := by decide +kernel
theorem dX10_waitOf_27 : decode cX10_waitOf 27 = .ok (.bipush (-2), 2) := by decide +kernel
theorem dX10_waitOf_29 : decode cX10_waitOf 29 = .ok (.ireturn, 1) := by decide +kernel
theorem dX10_allWaits_0 : decode cX10_allWaits 0 = .ok (.iconst 0, 1) := by decide +kernel
theorem dX10_allWaits_1 : decode cX10_allWaits 1 = .ok (.istore_n 1, 1) := by decide +kernel
theorem dX10_allWaits_2 : decode cX10_allWaits 2 = .ok (.iconst 0, 1) := by decide +kernel
theorem dX10_allWaits_3 : decode cX10_allWaits 3 = .ok (.istore_n 2, 1) := by decide +kernel
theorem dX10_allWaits_4 : decode cX10_allWaits 4 = .ok (.iload_n 2, 1) := by decide +kernel
theorem dX10_allWaits_5 : decode cX10_allWaits 5 = .ok (.aload_n 0, 1) := by decide +kernel
theorem dX10_allWaits_6 : decode cX10_allWaits 6 = .ok (.getfield 33, 3) := by decide +kernel
theorem dX10_allWaits_9 : decode cX10_allWaits 9 = .ok (.if_icmp .ge 17, 3) := by decide +kernel
theorem dX10_allWaits_12 : decode cX10_allWaits 12 = .ok (.iload_n 1, 1) := by decide +kernel
theorem dX10_allWaits_13 : decode cX10_allWaits 13 = .ok (.aload_n 0, 1) := by decide +kernel
theorem dX10_allWaits_14 : decode cX10_allWaits 14 = .ok (.iload_n 2, 1) := by decide +kernel
theorem dX10_allWaits_15 : decode cX10_allWaits 15 = .ok (.invokevirtual 93, 3) := by decide +kernel
theorem dX10_allWaits_18 : decode cX10_allWaits 18 = .ok (.iadd, 1) := by decide +kernel
theorem dX10_allWaits_19 : decode cX10_allWaits 19 = .ok (.istore_n 1, 1) := by decide +kernel
theorem dX10_allWaits_20 : decode cX10_allWaits 20 = .ok (.iinc 2 1, 3) := by decide +kernel
theorem dX10_allWaits_23 : decode cX10_allWaits 23 = .ok (.goto (-19), 3) := by decide +kernel
theorem dX10_allWaits_26 : decode cX10_allWaits 26 = .ok (.iload_n 1, 1) := by decide +kernel
theorem dX10_allWaits_27 : decode cX10_allWaits 27 = .ok (.ireturn, 1) := by decide +kernel
theorem dX10_carry_0 : decode cX10_carry 0 = .ok (.iconst 0, 1) := by decide +kernel
theorem dX10_carry_1 : decode cX10_carry 1 = .ok (.istore 5, 2) := by decide +kernel
theorem dX10_carry_3 : decode cX10_carry 3 = .ok (.iconst 1, 1) := by decide +kernel
theorem dX10_carry_4 : decode cX10_carry 4 = .ok (.istore 6, 2) := by decide +kernel
theorem dX10_carry_6 : decode cX10_carry 6 = .ok (.iconst 0, 1) := by decide +kernel
theorem dX10_carry_7 : decode cX10_carry 7 = .ok (.istore 7, 2) := by decide +kernel
theorem dX10_carry_9 : decode cX10_carry 9 = .ok (.iload 7, 2) := by decide +kernel
theorem dX10_carry_11 : decode cX10_carry 11 = .ok (.iload 4, 2) := by decide +kernel
theorem dX10_carry_13 : decode cX10_carry 13 = .ok (.if_icmp .ge 84, 3) := by decide +kernel
theorem dX10_carry_16 : decode cX10_carry 16 = .ok (.iload 6, 2) := by decide +kernel
theorem dX10_carry_18 : decode cX10_carry 18 = .ok (.ifCond .eq 79, 3) := by decide +kernel
theorem dX10_carry_21 : decode cX10_carry 21 = .ok (.iload 7, 2) := by decide +kernel
theorem dX10_carry_23 : decode cX10_carry 23 = .ok (.ifCond .le 29, 3) := by decide +kernel
theorem dX10_carry_26 : decode cX10_carry 26 = .ok (.aload_n 0, 1) := by decide +kernel
theorem dX10_carry_27 : decode cX10_carry 27 = .ok (.getfield 15, 3) := by decide +kernel
theorem dX10_carry_30 : decode cX10_carry 30 = .ok (.aload_n 0, 1) := by decide +kernel
theorem dX10_carry_31 : decode cX10_carry 31 = .ok (.getfield 22, 3) := by decide +kernel
theorem dX10_carry_34 : decode cX10_carry 34 = .ok (.iload_n 2, 1) := by decide +kernel
theorem dX10_carry_35 : decode cX10_carry 35 = .ok (.iload_n 1, 1) := by decide +kernel
theorem dX10_carry_36 : decode cX10_carry 36 = .ok (.iconst 0, 1) := by decide +kernel
theorem dX10_carry_37 : decode cX10_carry 37 = .ok (.iconst 1, 1) := by decide +kernel
theorem dX10_carry_38 : decode cX10_carry 38 = .ok (.invokevirtual 79, 3) := by decide +kernel
theorem dX10_carry_41 : decode cX10_carry 41 = .ok (.iconst (-1), 1) := by decide +kernel
theorem dX10_carry_42 : decode cX10_carry 42 = .ok (.if_icmp .ne 7, 3) := by decide +kernel
theorem dX10_carry_45 : decode cX10_carry 45 = .ok (.iconst 1, 1) := by decide +kernel
theorem dX10_carry_46 : decode cX10_carry 46 = .ok (.goto 4, 3) := by decide +kernel
theorem dX10_carry_49 : decode cX10_carry 49 = .ok (.iconst 0, 1) := by decide +kernel
theorem dX10_carry_50 : decode cX10_carry 50 = .ok (.istore 6, 2) := by decide +kernel
theorem dX10_carry_52 : decode cX10_carry 52 = .ok (.iload 6, 2) := by decide +kernel
theorem dX10_carry_54 : decode cX10_carry 54 = .ok (.ifCond .eq 29, 3) := by decide +kernel
theorem dX10_carry_57 : decode cX10_carry 57 = .ok (.aload_n 0, 1) := by decide +kernel
theorem dX10_carry_58 : decode cX10_carry 58 = .ok (.getfield 15, 3) := by decide +kernel
theorem dX10_carry_61 : decode cX10_carry 61 = .ok (.aload_n 0, 1) := by decide +kernel
theorem dX10_carry_62 : decode cX10_carry 62 = .ok (.getfield 22, 3) := by decide +kernel
theorem dX10_carry_65 : decode cX10_carry 65 = .ok (.iload_n 2, 1) := by decide +kernel
theorem dX10_carry_66 : decode cX10_carry 66 = .ok (.iload_n 1, 1) := by decide +kernel
theorem dX10_carry_67 : decode cX10_carry 67 = .ok (.iload_n 3, 1) := by decide +kernel
theorem dX10_carry_68 : decode cX10_carry 68 = .ok (.iconst 0, 1) := by decide +kernel
theorem dX10_carry_69 : decode cX10_carry 69 = .ok (.invokevirtual 79, 3) := by decide +kernel
theorem dX10_carry_72 : decode cX10_carry 72 = .ok (.iconst (-1), 1) := by decide +kernel
theorem dX10_carry_73 : decode cX10_carry 73 = .ok (.if_icmp .ne 7, 3) := by decide +kernel
theorem dX10_carry_76 : decode cX10_carry 76 = .ok (.iconst 1, 1) := by decide +kernel
theorem dX10_carry_77 : decode cX10_carry 77 = .ok (.goto 4, 3) := by decide +kernel
theorem dX10_carry_80 : decode cX10_carry 80 = .ok (.iconst 0, 1) := by decide +kernel
theorem dX10_carry_81 : decode cX10_carry 81 = .ok (.istore 6, 2) := by decide +kernel
theorem dX10_carry_83 : decode cX10_carry 83 = .ok (.iload 6, 2) := by decide +kernel
theorem dX10_carry_85 : decode cX10_carry 85 = .ok (.ifCond .eq 6, 3) := by decide +kernel
theorem dX10_carry_88 : decode cX10_carry 88 = .ok (.iinc 5 1, 3) := by decide +kernel
theorem dX10_carry_91 : decode cX10_carry 91 = .ok (.iinc 7 1, 3) := by decide +kernel
theorem dX10_carry_94 : decode cX10_carry 94 = .ok (.goto (-85), 3) := by decide +kernel
theorem dX10_carry_97 : decode cX10_carry 97 = .ok (.iload 5, 2) := by decide +kernel
theorem dX10_carry_99 : decode cX10_carry 99 = .ok (.ireturn, 1) := by decide +kernel
theorem dX11_init_0 : decode cX11_init 0 = .ok (.aload_n 0, 1) := by decide +kernel
theorem dX11_init_1 : decode cX11_init 1 = .ok (.invokespecial 1, 3) := by decide +kernel
theorem dX11_init_4 : decode cX11_init 4 = .ok (.aload_n 0, 1) := by decide +kernel
theorem dX11_init_5 : decode cX11_init 5 = .ok (.new 7, 3) := by decide +kernel
theorem dX11_init_8 : decode cX11_init 8 = .ok (.dup, 1) := by decide +kernel
theorem dX11_init_9 : decode cX11_init 9 = .ok (.invokespecial 9, 3) := by decide +kernel
theorem dX11_init_12 : decode cX11_init 12 = .ok (.putfield 10, 3) := by decide +kernel
theorem dX11_init_15 : decode cX11_init 15 = .ok (.aload_n 0, 1) := by decide +kernel
theorem dX11_init_16 : decode cX11_init 16 = .ok (.new 16, 3) := by decide +kernel
theorem dX11_init_19 : decode cX11_init 19 = .ok (.dup, 1) := by decide +kernel
theorem dX11_init_20 : decode cX11_init 20 = .ok (.invokespecial 18, 3) := by decide +kernel
theorem dX11_init_23 : decode cX11_init 23 = .ok (.putfield 19, 3) := by decide +kernel
theorem dX11_init_26 : decode cX11_init 26 = .ok (.aload_n 0, 1) := by decide +kernel
theorem dX11_init_27 : decode cX11_init 27 = .ok (.new 23, 3) := by decide +kernel
theorem dX11_init_30 : decode cX11_init 30 = .ok (.dup, 1) := by decide +kernel
theorem dX11_init_31 : decode cX11_init 31 = .ok (.invokespecial 25, 3) := by decide +kernel
theorem dX11_init_34 : decode cX11_init 34 = .ok (.putfield 26, 3) := by decide +kernel
theorem dX11_init_37 : decode cX11_init 37 = .ok (.aload_n 0, 1) := by decide +kernel
theorem dX11_init_38 : decode cX11_init 38 = .ok (.new 30, 3) := by decide +kernel
theorem dX11_init_41 : decode cX11_init 41 = .ok (.dup, 1) := by decide +kernel
theorem dX11_init_42 : decode cX11_init 42 = .ok (.aload_n 0, 1) := by decide +kernel
theorem dX11_init_43 : decode cX11_init 43 = .ok (.getfield 10, 3) := by decide +kernel
theorem dX11_init_46 : decode cX11_init 46 = .ok (.aload_n 0, 1) := by decide +kernel
theorem dX11_init_47 : decode cX11_init 47 = .ok (.getfield 26, 3) := by decide +kernel
theorem dX11_init_50 : decode cX11_init 50 = .ok (.invokespecial 32, 3) := by decide +kernel
theorem dX11_init_53 : decode cX11_init 53 = .ok (.putfield 35, 3) := by decide +kernel
theorem dX11_init_56 : decode cX11_init 56 = .ok (.aload_n 0, 1) := by decide +kernel
theorem dX11_init_57 : decode cX11_init 57 = .ok (.new 39, 3) := by decide +kernel
theorem dX11_init_60 : decode cX11_init 60 = .ok (.dup, 1) := by decide +kernel
theorem dX11_init_61 : decode cX11_init 61 = .ok (.invokespecial 41, 3) := by decide +kernel
theorem dX11_init_64 : decode cX11_init 64 = .ok (.putfield 42, 3) := by decide +kernel
theorem dX11_init_67 : decode cX11_init 67 = .ok (.aload_n 0, 1) := by decide +kernel
theorem dX11_init_68 : decode cX11_init 68 = .ok (.new 46, 3) := by decide +kernel
theorem dX11_init_71 : decode cX11_init 71 = .ok (.dup, 1) := by decide +kernel
theorem dX11_init_72 : decode cX11_init 72 = .ok (.aload_n 0, 1) := by decide +kernel
theorem dX11_init_73 : decode cX11_init 73 = .ok (.getfield 10, 3) := by decide +kernel
theorem dX11_init_76 : decode cX11_init 76 = .ok (.aload_n 0, 1) := by decide +kernel
theorem dX11_init_77 : decode cX11_init 77 = .ok (.getfield 35, 3) := by decide +kernel
theorem dX11_init_80 : decode cX11_init 80 = .ok (.invokespecial 48, 3) := by decide +kernel
theorem dX11_init_83 : decode cX11_init 83 = .ok (.putfield 51, 3) := by decide +kernel
theorem dX11_init_86 : decode cX11_init 86 = .ok (.aload_n 0, 1) := by decide +kernel
theorem dX11_init_87 : decode cX11_init 87 = .ok (.new 55, 3) := by decide +kernel
theorem dX11_init_90 : decode cX11_init 90 = .ok (.dup, 1) := by decide +kernel
theorem dX11_init_91 : decode cX11_init 91 = .ok (.aload_n 0, 1) := by decide +kernel
theorem dX11_init_92 : decode cX11_init 92 = .ok (.getfield 10, 3) := by decide +kernel
theorem dX11_init_95 : decode cX11_init 95 = .ok (.aload_n 0, 1) := by decide +kernel
theorem dX11_init_96 : decode cX11_init 96 = .ok (.getfield 35, 3) := by decide +kernel
theorem dX11_init_99 : decode cX11_init 99 = .ok (.invokespecial 57, 3) := by decide +kernel
theorem dX11_init_102 : decode cX11_init 102 = .ok (.putfield 58, 3) := by decide +kernel
theorem dX11_init_105 : decode cX11_init 105 = .ok (.aload_n 0, 1) := by decide +kernel
theorem dX11_init_106 : decode cX11_init 106 = .ok (.new 62, 3) := by decide +kernel
theorem dX11_init_109 : decode cX11_init 109 = .ok (.dup, 1) := by decide +kernel
theorem dX11_init_110 : decode cX11_init 110 = .ok (.aload_n 0, 1) := by decide +kernel
theorem dX11_init_111 : decode cX11_init 111 = .ok (.getfield 10, 3) := by decide +kernel
theorem dX11_init_114 : decode cX11_init 114 = .ok (.aload_n 0, 1) := by decide +kernel
theorem dX11_init_115 : decode cX11_init 115 = .ok (.getfield 35, 3) := by decide +kernel
theorem dX11_init_118 : decode cX11_init 118 = .ok (.invokespecial 64, 3) := by decide +kernel
theorem dX11_init_121 : decode cX11_init 121 = .ok (.putfield 65, 3) := by decide +kernel
theorem dX11_init_124 : decode cX11_init 124 = .ok (.aload_n 0, 1) := by decide +kernel
theorem dX11_init_125 : decode cX11_init 125 = .ok (.new 69, 3) := by decide +kernel
theorem dX11_init_128 : decode cX11_init 128 = .ok (.dup, 1) := by decide +kernel
theorem dX11_init_129 : decode cX11_init 129 = .ok (.invokespecial 71, 3) := by decide +kernel
theorem dX11_init_132 : decode cX11_init 132 = .ok (.putfield 72, 3) := by decide +kernel
theorem dX11_init_135 : decode cX11_init 135 = .ok (.aload_n 0, 1) := by decide +kernel
theorem dX11_init_136 : decode cX11_init 136 = .ok (.new 76, 3) := by decide +kernel
theorem dX11_init_139 : decode cX11_init 139 = .ok (.dup, 1) := by decide +kernel
theorem dX11_init_140 : decode cX11_init 140 = .ok (.invokespecial 78, 3) := by decide +kernel
theorem dX11_init_143 : decode cX11_init 143 = .ok (.putfield 79, 3) := by decide +kernel
theorem dX11_init_146 : decode cX11_init 146 = .ok (.return_, 1) := by decide +kernel
theorem dX11_goer_0 : decode cX11_goer 0 = .ok (.aload_n 0, 1) := by decide +kernel
theorem dX11_goer_1 : decode cX11_goer 1 = .ok (.getfield 10, 3) := by decide +kernel
theorem dX11_goer_4 : decode cX11_goer 4 = .ok (.iconst 4, 1) := by decide +kernel
theorem dX11_goer_5 : decode cX11_goer 5 = .ok (.iload_n 1, 1) := by decide +kernel
theorem dX11_goer_6 : decode cX11_goer 6 = .ok (.invokevirtual 83, 3) := by decide +kernel
theorem dX11_goer_9 : decode cX11_goer 9 = .ok (.ifCond .eq 16, 3) := by decide +kernel
theorem dX11_goer_12 : decode cX11_goer 12 = .ok (.aload_n 0, 1) := by decide +kernel
theorem dX11_goer_13 : decode cX11_goer 13 = .ok (.getfield 10, 3) := by decide +kernel
theorem dX11_goer_16 : decode cX11_goer 16 = .ok (.bipush 6, 2) := by decide +kernel
theorem dX11_goer_18 : decode cX11_goer 18 = .ok (.iload_n 2, 1) := by decide +kernel
theorem dX11_goer_19 : decode cX11_goer 19 = .ok (.invokevirtual 83, 3) := by decide +kernel
theorem dX11_goer_22 : decode cX11_goer 22 = .ok (.ifCond .ne 5, 3) := by decide +kernel
theorem dX11_goer_25 : decode cX11_goer 25 = .ok (.iconst (-1), 1) := by decide +kernel
theorem dX11_goer_26 : decode cX11_goer 26 = .ok (.ireturn, 1) := by decide +kernel
theorem dX11_goer_27 : decode cX11_goer 27 = .ok (.aload_n 0, 1) := by decide +kernel
theorem dX11_goer_28 : decode cX11_goer 28 = .ok (.getfield 10, 3) := by decide +kernel
theorem dX11_goer_31 : decode cX11_goer 31 = .ok (.getfield 87, 3) := by decide +kernel
theorem dX11_goer_34 : decode cX11_goer 34 = .ok (.bipush 7, 2) := by decide +kernel
theorem dX11_goer_36 : decode cX11_goer 36 = .ok (.if_icmp .lt 6, 3) := by decide +kernel
theorem dX11_goer_39 : decode cX11_goer 39 = .ok (.bipush (-3), 2) := by decide +kernel
theorem dX11_goer_41 : decode cX11_goer 41 = .ok (.ireturn, 1) := by decide +kernel
theorem dX11_goer_42 : decode cX11_goer 42 = .ok (.aload_n 0, 1) := by decide +kernel
theorem dX11_goer_43 : decode cX11_goer 43 = .ok (.getfield 10, 3) := by decide +kernel
theorem dX11_goer_46 : decode cX11_goer 46 = .ok (.iload_n 1, 1) := by decide +kernel
theorem dX11_goer_47 : decode cX11_goer 47 = .ok (.iload_n 2, 1) := by decide +kernel
theorem dX11_goer_48 : decode cX11_goer 48 = .ok (.iconst 2, 1) := by decide +kernel
theorem dX11_goer_49 : decode cX11_goer 49 = .ok (.invokevirtual 91, 3) := by decide +kernel
theorem dX11_goer_52 : decode cX11_goer 52 = .ok (.ireturn, 1) := by decide +kernel
theorem dX11_goers_0 : decode cX11_goers 0 = .ok (.iload_n 1, 1) := by decide +kernel
theorem dX11_goers_1 : decode cX11_goers 1 = .ok (.invokestatic 95, 3) := by decide +kernel
theorem dX11_goers_4 : decode cX11_goers 4 = .ok (.ifCond .eq 14, 3) := by decide +kernel
theorem dX11_goers_7 : decode cX11_goers 7 = .ok (.iload_n 3, 1) := by decide +kernel
theorem dX11_goers_8 : decode cX11_goers 8 = .ok (.iconst 1, 1) := by decide +kernel
theorem dX11_goers_9 : decode cX11_goers 9 = .ok (.if_icmp .lt 9, 3) := by decide +kernel
theorem dX11_goers_12 : decode cX11_goers 12 = .ok (.iload_n 3, 1) := by decide +kernel
theorem dX11_goers_13 : decode cX11_goers 13 = .ok (.bipush 7, 2) := by decide +kernel
theorem dX11_goers_15 : decode cX11_goers 15 = .ok (.if_icmp .le 5, 3) := by decide +kernel
theorem dX11_goers_18 : decode cX11_goers 18 = .ok (.iconst (-1), 1) := by decide +kernel
theorem dX11_goers_19 : decode cX11_goers 19 = .ok (.ireturn, 1) := by decide +kernel
theorem dX11_goers_20 : decode cX11_goers 20 = .ok (.aload_n 0, 1) := by decide +kernel
theorem dX11_goers_21 : decode cX11_goers 21 = .ok (.getfield 72, 3) := by decide +kernel
theorem dX11_goers_24 : decode cX11_goers 24 = .ok (.iload_n 1, 1) := by decide +kernel
theorem dX11_goers_25 : decode cX11_goers 25 = .ok (.invokevirtual 99, 3) := by decide +kernel
theorem dX11_goers_28 : decode cX11_goers 28 = .ok (.ifCond .eq 5, 3) := by decide +kernel
theorem dX11_goers_31 : decode cX11_goers 31 = .ok (.iconst 0, 1) := by decide +kernel
theorem dX11_goers_32 : decode cX11_goers 32 = .ok (.ireturn, 1) := by decide +kernel
theorem dX11_goers_33 : decode cX11_goers 33 = .ok (.aload_n 0, 1) := by decide +kernel
theorem dX11_goers_34 : decode cX11_goers 34 = .ok (.getfield 72, 3) := by decide +kernel
theorem dX11_goers_37 : decode cX11_goers 37 = .ok (.iload_n 1, 1) := by decide +kernel
theorem dX11_goers_38 : decode cX11_goers 38 = .ok (.invokevirtual 102, 3) := by decide +kernel
theorem dX11_goers_41 : decode cX11_goers 41 = .ok (.ifCond .ne 6, 3) := by decide +kernel
theorem dX11_goers_44 : decode cX11_goers 44 = .ok (.bipush (-12), 2) := by decide +kernel
theorem dX11_goers_46 : decode cX11_goers 46 = .ok (.ireturn, 1) := by decide +kernel
theorem dX11_goers_47 : decode cX11_goers 47 = .ok (.iconst 0, 1) := by decide +kernel
theorem dX11_goers_48 : decode cX11_goers 48 = .ok (.istore 4, 2) := by decide +kernel
theorem dX11_goers_50 : decode cX11_goers 50 = .ok (.iload_n 2, 1) := by decide +kernel
theorem dX11_goers_51 : decode cX11_goers 51 = .ok (.istore 5, 2) := by decide +kernel
theorem dX11_goers_53 : decode cX11_goers 53 = .ok (.iload 4, 2) := by decide +kernel
theorem dX11_goers_55 : decode cX11_goers 55 = .ok (.iload_n 3, 1) := by decide +kernel
theorem dX11_goers_56 : decode cX11_goers 56 = .ok (.if_icmp .ge 36, 3) := by decide +kernel
theorem dX11_goers_59 : decode cX11_goers 59 = .ok (.aload_n 0, 1) := by decide +kernel
theorem dX11_goers_60 : decode cX11_goers 60 = .ok (.getfield 72, 3) := by decide +kernel
theorem dX11_goers_63 : decode cX11_goers 63 = .ok (.iload_n 1, 1) := by decide +kernel
theorem dX11_goers_64 : decode cX11_goers 64 = .ok (.iload 5, 2) := by decide +kernel
theorem dX11_goers_66 : decode cX11_goers 66 = .ok (.iconst 3, 1) := by decide +kernel
theorem dX11_goers_67 : decode cX11_goers 67 = .ok (.invokevirtual 105, 3) := by decide +kernel
theorem dX11_goers_70 : decode cX11_goers 70 = .ok (.ifCond .eq 22, 3) := by decide +kernel
theorem dX11_goers_73 : decode cX11_goers 73 = .ok (.aload_n 0, 1) := by decide +kernel
theorem dX11_goers_74 : decode cX11_goers 74 = .ok (.iload_n 1, 1) := by decide +kernel
theorem dX11_goers_75 : decode cX11_goers 75 = .ok (.iload 5, 2) := by decide +kernel
theorem dX11_goers_77 : decode cX11_goers 77 = .ok (.invokevirtual 109, 3) := by decide +kernel
theorem dX11_goers_80 : decode cX11_goers 80 = .ok (.ifCond .eq 12, 3) := by decide +kernel
theorem dX11_goers_83 : decode cX11_goers 83 = .ok (.iinc 4 1, 3) := by decide +kernel
theorem dX11_goers_86 : decode cX11_goers 86 = .ok (.iinc 5 3, 3) := by decide +kernel
theorem dX11_goers_89 : decode cX11_goers 89 = .ok (.goto (-36), 3) := by decide +kernel
theorem dX11_goers_92 : decode cX11_goers 92 = .ok (.iload 4, 2) := by decide +kernel
theorem dX11_goers_94 : decode cX11_goers 94 = .ok (.ireturn, 1) := by decide +kernel
theorem dX11_mend_0 : decode cX11_mend 0 = .ok (.aload_n 0, 1) := by decide +kernel
theorem dX11_mend_1 : decode cX11_mend 1 = .ok (.getfield 10, 3) := by decide +kernel
theorem dX11_mend_4 : decode cX11_mend 4 = .ok (.iload_n 1, 1) := by decide +kernel
theorem dX11_mend_5 : decode cX11_mend 5 = .ok (.iload_n 2, 1) := by decide +kernel
theorem dX11_mend_6 : decode cX11_mend 6 = .ok (.invokevirtual 112, 3) := by decide +kernel
theorem dX11_mend_9 : decode cX11_mend 9 = .ok (.ifCond .eq 15, 3) := by decide +kernel
theorem dX11_mend_12 : decode cX11_mend 12 = .ok (.aload_n 0, 1) := by decide +kernel
theorem dX11_mend_13 : decode cX11_mend 13 = .ok (.getfield 10, 3) := by decide +kernel
theorem dX11_mend_16 : decode cX11_mend 16 = .ok (.iload_n 2, 1) := by decide +kernel
theorem dX11_mend_17 : decode cX11_mend 17 = .ok (.iload_n 3, 1) := by decide +kernel
theorem dX11_mend_18 : decode cX11_mend 18 = .ok (.invokevirtual 83, 3) := by decide +kernel
theorem dX11_mend_21 : decode cX11_mend 21 = .ok (.ifCond .ne 5, 3) := by decide +kernel
theorem dX11_mend_24 : decode cX11_mend 24 = .ok (.iconst (-1), 1) := by decide +kernel
theorem dX11_mend_25 : decode cX11_mend 25 = .ok (.ireturn, 1) := by decide +kernel
theorem dX11_mend_26 : decode cX11_mend 26 = .ok (.aload_n 0, 1) := by decide +kernel
theorem dX11_mend_27 : decode cX11_mend 27 = .ok (.getfield 10, 3) := by decide +kernel
theorem dX11_mend_30 : decode cX11_mend 30 = .ok (.iload_n 1, 1) := by decide +kernel
theorem dX11_mend_31 : decode cX11_mend 31 = .ok (.iload_n 2, 1) := by decide +kernel
theorem dX11_mend_32 : decode cX11_mend 32 = .ok (.invokevirtual 115, 3) := by decide +kernel
theorem dX11_mend_35 : decode cX11_mend 35 = .ok (.istore 4, 2) := by decide +kernel
theorem dX11_mend_37 : decode cX11_mend 37 = .ok (.iload 4, 2) := by decide +kernel
theorem dX11_mend_39 : decode cX11_mend 39 = .ok (.iload_n 3, 1) := by decide +kernel
theorem dX11_mend_40 : decode cX11_mend 40 = .ok (.if_icmp .eq 25, 3) := by decide +kernel
theorem dX11_mend_43 : decode cX11_mend 43 = .ok (.aload_n 0, 1) := by decide +kernel
theorem dX11_mend_44 : decode cX11_mend 44 = .ok (.getfield 10, 3) := by decide +kernel
theorem dX11_mend_47 : decode cX11_mend 47 = .ok (.iload_n 1, 1) := by decide +kernel
theorem dX11_mend_48 : decode cX11_mend 48 = .ok (.iload_n 2, 1) := by decide +kernel
theorem dX11_mend_49 : decode cX11_mend 49 = .ok (.iload_n 3, 1) := by decide +kernel
theorem dX11_mend_50 : decode cX11_mend 50 = .ok (.invokevirtual 119, 3) := by decide +kernel
theorem dX11_mend_53 : decode cX11_mend 53 = .ok (.aload_n 0, 1) := by decide +kernel
theorem dX11_mend_54 : decode cX11_mend 54 = .ok (.getfield 19, 3) := by decide +kernel
theorem dX11_mend_57 : decode cX11_mend 57 = .ok (.iload_n 1, 1) := by decide +kernel
theorem dX11_mend_58 : decode cX11_mend 58 = .ok (.iload_n 2, 1) := by decide +kernel
theorem dX11_mend_59 : decode cX11_mend 59 = .ok (.iload 4, 2) := by decide +kernel
theorem dX11_mend_61 : decode cX11_mend 61 = .ok (.iload_n 3, 1) := by decide +kernel
theorem dX11_mend_62 : decode cX11_mend 62 = .ok (.invokevirtual 123, 3) := by decide +kernel
theorem dX11_mend_65 : decode cX11_mend 65 = .ok (.iload 4, 2) := by decide +kernel
theorem dX11_mend_67 : decode cX11_mend 67 = .ok (.ireturn, 1) := by decide +kernel
theorem dX11_of_0 : decode cX11_of 0 = .ok (.iload_n 2, 1) := by decide +kernel
theorem dX11_of_1 : decode cX11_of 1 = .ok (.bipush 12, 2) := by decide +kernel
theorem dX11_of_3 : decode cX11_of 3 = .ok (.if_icmp .ne 22, 3) := by decide +kernel
theorem dX11_of_6 : decode cX11_of 6 = .ok (.iload_n 1, 1) := by decide +kernel
theorem dX11_of_7 : decode cX11_of 7 = .ok (.ifCond .ne 16, 3) := by decide +kernel
theorem dX11_of_10 : decode cX11_of 10 = .ok (.aload_n 0, 1) := by decide +kernel
theorem dX11_of_11 : decode cX11_of 11 = .ok (.getfield 42, 3) := by decide +kernel
theorem dX11_of_14 : decode cX11_of 14 = .ok (.getfield 126, 3) := by decide +kernel
theorem dX11_of_17 : decode cX11_of 17 = .ok (.getfield 130, 3) := by decide +kernel
theorem dX11_of_20 : decode cX11_of 20 = .ok (.goto 4, 3) := by decide +kernel
theorem dX11_of_23 : decode cX11_of 23 = .ok (.iconst (-1), 1) := by decide +kernel
theorem dX11_of_24 : decode cX11_of 24 = .ok (.ireturn, 1) := by decide +kernel
theorem dX11_of_25 : decode cX11_of 25 = .ok (.iload_n 2, 1) := by decide +kernel
theorem dX11_of_26 : decode cX11_of 26 = .ok (.bipush 10, 2) := by decide +kernel
theorem dX11_of_28 : decode cX11_of 28 = .ok (.if_icmp .eq 9, 3) := by decide +kernel
theorem dX11_of_31 : decode cX11_of 31 = .ok (.iload_n 2, 1) := by decide +kernel
theorem dX11_of_32 : decode cX11_of 32 = .ok (.bipush 11, 2) := by decide +kernel
theorem dX11_of_34 : decode cX11_of 34 = .ok (.if_icmp .ne 63, 3) := by decide +kernel
theorem dX11_of_37 : decode cX11_of 37 = .ok (.iload_n 1, 1) := by decide +kernel
theorem dX11_of_38 : decode cX11_of 38 = .ok (.invokestatic 135, 3) := by decide +kernel
theorem dX11_of_41 : decode cX11_of 41 = .ok (.ifCond .ne 5, 3) := by decide +kernel
theorem dX11_of_44 : decode cX11_of 44 = .ok (.iconst (-1), 1) := by decide +kernel
theorem dX11_of_45 : decode cX11_of 45 = .ok (.ireturn, 1) := by decide +kernel
theorem dX11_of_46 : decode cX11_of 46 = .ok (.aload_n 0, 1) := by decide +kernel
theorem dX11_of_47 : decode cX11_of 47 = .ok (.getfield 35, 3) := by decide +kernel
theorem dX11_of_50 : decode cX11_of 50 = .ok (.aload_n 0, 1) := by decide +kernel
theorem dX11_of_51 : decode cX11_of 51 = .ok (.getfield 42, 3) := by decide +kernel
theorem dX11_of_54 : decode cX11_of 54 = .ok (.getfield 126, 3) := by decide +kernel
theorem dX11_of_57 : decode cX11_of 57 = .ok (.invokevirtual 138, 3) := by decide +kernel
theorem dX11_of_60 : decode cX11_of 60 = .ok (.iload_n 2, 1) := by decide +kernel
theorem dX11_of_61 : decode cX11_of 61 = .ok (.bipush 10, 2) := by decide +kernel
theorem dX11_of_63 : decode cX11_of 63 = .ok (.if_icmp .ne 17, 3) := by decide +kernel
theorem dX11_of_66 : decode cX11_of 66 = .ok (.aload_n 0, 1) := by decide +kernel
theorem dX11_of_67 : decode cX11_of 67 = .ok (.getfield 42, 3) := by decide +kernel
theorem dX11_of_70 : decode cX11_of 70 = .ok (.getfield 126, 3) := by decide +kernel
theorem dX11_of_73 : decode cX11_of 73 = .ok (.iload_n 1, 1) := by decide +kernel
theorem dX11_of_74 : decode cX11_of 74 = .ok (.invokevirtual 142, 3) := by decide +kernel
theorem dX11_of_77 : decode cX11_of 77 = .ok (.goto 19, 3) := by decide +kernel
theorem dX11_of_80 : decode cX11_of 80 = .ok (.aload_n 0, 1) := by decide +kernel
theorem dX11_of_81 : decode cX11_of 81 = .ok (.getfield 35, 3) := by decide +kernel
theorem dX11_of_84 : decode cX11_of 84 = .ok (.aload_n 0, 1) := by decide +kernel
theorem dX11_of_85 : decode cX11_of 85 = .ok (.getfield 42, 3) := by decide +kernel
theorem dX11_of_88 : decode cX11_of 88 = .ok (.getfield 126, 3) := by decide +kernel
theorem dX11_of_91 : decode cX11_of 91 = .ok (.iload_n 1, 1) := by decide +kernel
theorem dX11_of_92 : decode cX11_of 92 = .ok (.iconst 0, 1) := by decide +kernel
theorem dX11_of_93 : decode cX11_of 93 = .ok (.invokevirtual 146, 3) := by decide +kernel
theorem dX11_of_96 : decode cX11_of 96 = .ok (.ireturn, 1) := by decide +kernel
theorem dX11_of_97 : decode cX11_of 97 = .ok (.aload_n 0, 1) := by decide +kernel
theorem dX11_of_98 : decode cX11_of 98 = .ok (.getfield 10, 3) := by decide +kernel
theorem dX11_of_101 : decode cX11_of 101 = .ok (.iload_n 1, 1) := by decide +kernel
theorem dX11_of_102 : decode cX11_of 102 = .ok (.iload_n 2, 1) := by decide +kernel
theorem dX11_of_103 : decode cX11_of 103 = .ok (.invokevirtual 112, 3) := by decide +kernel
theorem dX11_of_106 : decode cX11_of 106 = .ok (.ifCond .eq 15, 3) := by decide +kernel
theorem dX11_of_109 : decode cX11_of 109 = .ok (.aload_n 0, 1) := by decide +kernel
theorem dX11_of_110 : decode cX11_of 110 = .ok (.getfield 10, 3) := by decide +kernel
theorem dX11_of_113 : decode cX11_of 113 = .ok (.iload_n 1, 1) := by decide +kernel
theorem dX11_of_114 : decode cX11_of 114 = .ok (.iload_n 2, 1) := by decide +kernel
theorem dX11_of_115 : decode cX11_of 115 = .ok (.invokevirtual 115, 3) := by decide +kernel
theorem dX11_of_118 : decode cX11_of 118 = .ok (.goto 4, 3) := by decide +kernel
theorem dX11_of_121 : decode cX11_of 121 = .ok (.iconst (-1), 1) := by decide +kernel
theorem dX11_of_122 : decode cX11_of 122 = .ok (.ireturn, 1) := by decide +kernel
theorem dX11_feed_0 : decode cX11_feed 0 = .ok (.iload_n 1, 1) := by decide +kernel
theorem dX11_feed_1 : decode cX11_feed 1 = .ok (.ifCond .lt 10, 3) := by decide +kernel
theorem dX11_feed_4 : decode cX11_feed 4 = .ok (.iload_n 1, 1) := by decide +kernel
theorem dX11_feed_5 : decode cX11_feed 5 = .ok (.sipush 255, 3) := by decide +kernel
theorem dX11_feed_8 : decode cX11_feed 8 = .ok (.if_icmp .le 5, 3) := by decide +kernel
theorem dX11_feed_11 : decode cX11_feed 11 = .ok (.iconst (-1), 1) := by decide +kernel
theorem dX11_feed_12 : decode cX11_feed 12 = .ok (.ireturn, 1) := by decide +kernel
theorem dX11_feed_13 : decode cX11_feed 13 = .ok (.aload_n 0, 1) := by decide +kernel
theorem dX11_feed_14 : decode cX11_feed 14 = .ok (.getfield 26, 3) := by decide +kernel
theorem dX11_feed_17 : decode cX11_feed 17 = .ok (.iload_n 1, 1) := by decide +kernel
theorem dX11_feed_18 : decode cX11_feed 18 = .ok (.invokevirtual 150, 3) := by decide +kernel
theorem dX11_feed_21 : decode cX11_feed 21 = .ok (.ifCond .eq 13, 3) := by decide +kernel
theorem dX11_feed_24 : decode cX11_feed 24 = .ok (.aload_n 0, 1) := by decide +kernel
theorem dX11_feed_25 : decode cX11_feed 25 = .ok (.getfield 26, 3) := by decide +kernel
theorem dX11_feed_28 : decode cX11_feed 28 = .ok (.getfield 153, 3) := by decide +kernel
theorem dX11_feed_31 : decode cX11_feed 31 = .ok (.goto 5, 3) := by decide +kernel
theorem dX11_feed_34 : decode cX11_feed 34 = .ok (.bipush (-3), 2) := by decide +kernel
theorem dX11_feed_36 : decode cX11_feed 36 = .ok (.ireturn, 1) := by decide +kernel
theorem dX11_law_0 : decode cX11_law 0 = .ok (.aload_n 0, 1) := by decide +kernel
theorem dX11_law_1 : decode cX11_law 1 = .ok (.getfield 26, 3) := by decide +kernel
theorem dX11_law_4 : decode cX11_law 4 = .ok (.invokevirtual 156, 3) := by decide +kernel
theorem dX11_law_7 : decode cX11_law 7 = .ok (.istore_n 1, 1) := by decide +kernel
theorem dX11_law_8 : decode cX11_law 8 = .ok (.iload_n 1, 1) := by decide +kernel
theorem dX11_law_9 : decode cX11_law 9 = .ok (.ifCond .ge 7, 3) := by decide +kernel
theorem dX11_law_12 : decode cX11_law 12 = .ok (.iconst 1, 1) := by decide +kernel
theorem dX11_law_13 : decode cX11_law 13 = .ok (.goto 7, 3) := by decide +kernel
theorem dX11_law_16 : decode cX11_law 16 = .ok (.bipush (-100), 2) := by decide +kernel
theorem dX11_law_18 : decode cX11_law 18 = .ok (.iload_n 1, 1) := by decide +kernel
theorem dX11_law_19 : decode cX11_law 19 = .ok (.isub, 1) := by decide +kernel
theorem dX11_law_20 : decode cX11_law 20 = .ok (.ireturn, 1) := by decide +kernel
theorem dX11_over_0 : decode cX11_over 0 = .ok (.iload_n 1, 1) := by decide +kernel
theorem dX11_over_1 : decode cX11_over 1 = .ok (.invokestatic 95, 3) := by decide +kernel
theorem dX11_over_4 : decode cX11_over 4 = .ok (.ifCond .eq 19, 3) := by decide +kernel
theorem dX11_over_7 : decode cX11_over 7 = .ok (.iload_n 2, 1) := by decide +kernel
theorem dX11_over_8 : decode cX11_over 8 = .ok (.invokestatic 160, 3) := by decide +kernel
theorem dX11_over_11 : decode cX11_over 11 = .ok (.ifCond .eq 12, 3) := by decide +kernel
theorem dX11_over_14 : decode cX11_over 14 = .ok (.iload_n 3, 1) := by decide +kernel
theorem dX11_over_15 : decode cX11_over 15 = .ok (.ifCond .lt 8, 3) := by decide +kernel
theorem dX11_over_18 : decode cX11_over 18 = .ok (.iload_n 3, 1) := by decide +kernel
theorem dX11_over_19 : decode cX11_over 19 = .ok (.iconst 2, 1) := by decide +kernel
theorem dX11_over_20 : decode cX11_over 20 = .ok (.if_icmp .le 5, 3) := by decide +kernel
theorem dX11_over_23 : decode cX11_over 23 = .ok (.iconst (-1), 1) := by decide +kernel
theorem dX11_over_24 : decode cX11_over 24 = .ok (.ireturn, 1) := by decide +kernel
theorem dX11_over_25 : decode cX11_over 25 = .ok (.aload_n 0, 1) := by decide +kernel
theorem dX11_over_26 : decode cX11_over 26 = .ok (.getfield 72, 3) := by decide +kernel
theorem dX11_over_29 : decode cX11_over 29 = .ok (.iload_n 1, 1) := by decide +kernel
theorem dX11_over_30 : decode cX11_over 30 = .ok (.invokevirtual 163, 3) := by decide +kernel
theorem dX11_over_33 : decode cX11_over 33 = .ok (.istore 4, 2) := by decide +kernel
theorem dX11_over_35 : decode cX11_over 35 = .ok (.iload 4, 2) := by decide +kernel
theorem dX11_over_37 : decode cX11_over 37 = .ok (.ifCond .eq 6, 3) := by decide +kernel
theorem dX11_over_40 : decode cX11_over 40 = .ok (.iload 4, 2) := by decide +kernel
theorem dX11_over_42 : decode cX11_over 42 = .ok (.ireturn, 1) := by decide +kernel
theorem dX11_over_43 : decode cX11_over 43 = .ok (.aload_n 0, 1) := by decide +kernel
theorem dX11_over_44 : decode cX11_over 44 = .ok (.iload_n 1, 1) := by decide +kernel
theorem dX11_over_45 : decode cX11_over 45 = .ok (.iload_n 2, 1) := by decide +kernel
theorem dX11_over_46 : decode cX11_over 46 = .ok (.invokevirtual 166, 3) := by decide +kernel
theorem dX11_over_49 : decode cX11_over 49 = .ok (.iload_n 3, 1) := by decide +kernel
theorem dX11_over_50 : decode cX11_over 50 = .ok (.ifCond .ne 11, 3) := by decide +kernel
theorem dX11_over_53 : decode cX11_over 53 = .ok (.aload_n 0, 1) := by decide +kernel
theorem dX11_over_54 : decode cX11_over 54 = .ok (.getfield 51, 3) := by decide +kernel
theorem dX11_over_57 : decode cX11_over 57 = .ok (.getfield 170, 3) := by decide +kernel
theorem dX11_over_60 : decode cX11_over 60 = .ok (.ireturn, 1) := by decide +kernel
theorem dX11_over_61 : decode cX11_over 61 = .ok (.iload_n 3, 1) := by decide +kernel
theorem dX11_over_62 : decode cX11_over 62 = .ok (.iconst 1, 1) := by decide +kernel
theorem dX11_over_63 : decode cX11_over 63 = .ok (.if_icmp .ne 13, 3) := by decide +kernel
theorem dX11_over_66 : decode cX11_over 66 = .ok (.aload_n 0, 1) := by decide +kernel
theorem dX11_over_67 : decode cX11_over 67 = .ok (.getfield 51, 3) := by decide +kernel
theorem dX11_over_70 : decode cX11_over 70 = .ok (.getfield 173, 3) := by decide +kernel
theorem dX11_over_73 : decode cX11_over 73 = .ok (.goto 24, 3) := by decide +kernel
theorem dX11_over_76 : decode cX11_over 76 = .ok (.aload_n 0, 1) := by decide +kernel
theorem dX11_over_77 : decode cX11_over 77 = .ok (.getfield 51, 3) := by decide +kernel
theorem dX11_over_80 : decode cX11_over 80 = .ok (.getfield 176, 3) := by decide +kernel
theorem dX11_over_83 : decode cX11_over 83 = .ok (.getfield 130, 3) := by decide +kernel
theorem dX11_over_86 : decode cX11_over 86 = .ok (.aload_n 0, 1) := by decide +kernel
theorem dX11_over_87 : decode cX11_over 87 = .ok (.getfield 42, 3) := by decide +kernel
theorem dX11_over_90 : decode cX11_over 90 = .ok (.getfield 126, 3) := by decide +kernel
theorem dX11_over_93 : decode cX11_over 93 = .ok (.getfield 130, 3) := by decide +kernel
theorem dX11_over_96 : decode cX11_over 96 = .ok (.isub, 1) := by decide +kernel
theorem dX11_over_97 : decode cX11_over 97 = .ok (.ireturn, 1) := by decide +kernel
theorem dX11_bears_0 : decode cX11_bears 0 = .ok (.iload_n 1, 1) := by decide +kernel
theorem dX11_bears_1 : decode cX11_bears 1 = .ok (.invokestatic 95, 3) := by decide +kernel
theorem dX11_bears_4 : decode cX11_bears 4 = .ok (.ifCond .eq 17, 3) := by decide +kernel
theorem dX11_bears_7 : decode cX11_bears 7 = .ok (.iload_n 2, 1) := by decide +kernel
theorem dX11_bears_8 : decode cX11_bears 8 = .ok (.invokestatic 160, 3) := by decide +kernel
theorem dX11_bears_11 : decode cX11_bears 11 = .ok (.ifCond .eq 10, 3) := by decide +kernel
theorem dX11_bears_14 : decode cX11_bears 14 = .ok (.iload_n 3, 1) := by decide +kernel
theorem dX11_bears_15 : decode cX11_bears 15 = .ok (.invokestatic 135, 3) := by decide +kernel
theorem dX11_bears_18 : decode cX11_bears 18 = .ok (.ifCond .ne 5, 3) := by decide +kernel
theorem dX11_bears_21 : decode cX11_bears 21 = .ok (.iconst (-1), 1) := by decide +kernel
theorem dX11_bears_22 : decode cX11_bears 22 = .ok (.ireturn, 1) := by decide +kernel
theorem dX11_bears_23 : decode cX11_bears 23 = .ok (.aload_n 0, 1) := by decide +kernel
theorem dX11_bears_24 : decode cX11_bears 24 = .ok (.getfield 72, 3) := by decide +kernel
theorem dX11_bears_27 : decode cX11_bears 27 = .ok (.iload_n 1, 1) := by decide +kernel
theorem dX11_bears_28 : decode cX11_bears 28 = .ok (.invokevirtual 163, 3) := by decide +kernel
theorem dX11_bears_31 : decode cX11_bears 31 = .ok (.istore 4, 2) := by decide +kernel
theorem dX11_bears_33 : decode cX11_bears 33 = .ok (.iload 4, 2) := by decide +kernel
theorem dX11_bears_35 : decode cX11_bears 35 = .ok (.ifCond .eq 6, 3) := by decide +kernel
theorem dX11_bears_38 : decode cX11_bears 38 = .ok (.iload 4, 2) := by decide +kernel
theorem dX11_bears_40 : decode cX11_bears 40 = .ok (.ireturn, 1) := by decide +kernel
theorem dX11_bears_41 : decode cX11_bears 41 = .ok (.aload_n 0, 1) := by decide +kernel
theorem dX11_bears_42 : decode cX11_bears 42 = .ok (.iload_n 1, 1) := by decide +kernel
theorem dX11_bears_43 : decode cX11_bears 43 = .ok (.iload_n 2, 1) := by decide +kernel
theorem dX11_bears_44 : decode cX11_bears 44 = .ok (.invokevirtual 166, 3) := by decide +kernel
theorem dX11_bears_47 : decode cX11_bears 47 = .ok (.aload_n 0, 1) := by decide +kernel
theorem dX11_bears_48 : decode cX11_bears 48 = .ok (.getfield 35, 3) := by decide +kernel
theorem dX11_bears_51 : decode cX11_bears 51 = .ok (.aload_n 0, 1) := by decide +kernel
theorem dX11_bears_52 : decode cX11_bears 52 = .ok (.getfield 51, 3) := by decide +kernel
theorem dX11_bears_55 : decode cX11_bears 55 = .ok (.getfield 176, 3) := by decide +kernel
theorem dX11_bears_58 : decode cX11_bears 58 = .ok (.iload_n 3, 1) := by decide +kernel
theorem dX11_bears_59 : decode cX11_bears 59 = .ok (.iconst 0, 1) := by decide +kernel
theorem dX11_bears_60 : decode cX11_bears 60 = .ok (.invokevirtual 146, 3) := by decide +kernel
theorem dX11_bears_63 : decode cX11_bears 63 = .ok (.ireturn, 1) := by decide +kernel
theorem dX11_all_0 : decode cX11_all 0 = .ok (.iload_n 1, 1) := by decide +kernel
theorem dX11_all_1 : decode cX11_all 1 = .ok (.invokestatic 160, 3) := by decide +kernel
theorem dX11_all_4 : decode cX11_all 4 = .ok (.ifCond .eq 8, 3) := by decide +kernel
theorem dX11_all_7 : decode cX11_all 7 = .ok (.iload_n 2, 1) := by decide +kernel
theorem dX11_all_8 : decode cX11_all 8 = .ok (.iconst (-1), 1) := by decide +kernel
theorem dX11_all_9 : decode cX11_all 9 = .ok (.if_icmp .ge 5, 3) := by decide +kernel
theorem dX11_all_12 : decode cX11_all 12 = .ok (.iconst (-1), 1) := by decide +kernel
theorem dX11_all_13 : decode cX11_all 13 = .ok (.ireturn, 1) := by decide +kernel
theorem dX11_all_14 : decode cX11_all 14 = .ok (.iload_n 2, 1) := by decide +kernel
theorem dX11_all_15 : decode cX11_all 15 = .ok (.aload_n 0, 1) := by decide +kernel
theorem dX11_all_16 : decode cX11_all 16 = .ok (.getfield 10, 3) := by decide +kernel
theorem dX11_all_19 : decode cX11_all 19 = .ok (.getfield 87, 3) := by decide +kernel
theorem dX11_all_22 : decode cX11_all 22 = .ok (.if_icmp .lt 6, 3) := by decide +kernel
theorem dX11_all_25 : decode cX11_all 25 = .ok (.bipush (-2), 2) := by decide +kernel
theorem dX11_all_27 : decode cX11_all 27 = .ok (.ireturn, 1) := by decide +kernel
theorem dX11_all_28 : decode cX11_all 28 = .ok (.aload_n 0, 1) := by decide +kernel
theorem dX11_all_29 : decode cX11_all 29 = .ok (.getfield 58, 3) := by decide +kernel
theorem dX11_all_32 : decode cX11_all 32 = .ok (.aload_n 0, 1) := by decide +kernel
theorem dX11_all_33 : decode cX11_all 33 = .ok (.getfield 42, 3) := by decide +kernel
theorem dX11_all_36 : decode cX11_all 36 = .ok (.getfield 126, 3) := by decide +kernel
theorem dX11_all_39 : decode cX11_all 39 = .ok (.iload_n 1, 1) := by decide +kernel
theorem dX11_all_40 : decode cX11_all 40 = .ok (.invokevirtual 177, 3) := by decide +kernel
theorem dX11_all_43 : decode cX11_all 43 = .ok (.istore_n 3, 1) := by decide +kernel
theorem dX11_all_44 : decode cX11_all 44 = .ok (.iload_n 2, 1) := by decide +kernel
theorem dX11_all_45 : decode cX11_all 45 = .ok (.ifCond .ge 7, 3) := by decide +kernel
theorem dX11_all_48 : decode cX11_all 48 = .ok (.iload_n 3, 1) := by decide +kernel
theorem dX11_all_49 : decode cX11_all 49 = .ok (.goto 11, 3) := by decide +kernel
theorem dX11_all_52 : decode cX11_all 52 = .ok (.aload_n 0, 1) := by decide +kernel
theorem dX11_all_53 : decode cX11_all 53 = .ok (.getfield 58, 3) := by decide +kernel
theorem dX11_all_56 : decode cX11_all 56 = .ok (.iload_n 2, 1) := by decide +kernel
theorem dX11_all_57 : decode cX11_all 57 = .ok (.invokevirtual 181, 3) := by decide +kernel
theorem dX11_all_60 : decode cX11_all 60 = .ok (.ireturn, 1) := by decide +kernel
theorem dX11_rule_0 : decode cX11_rule 0 = .ok (.iload_n 1, 1) := by decide +kernel
theorem dX11_rule_1 : decode cX11_rule 1 = .ok (.invokestatic 160, 3) := by decide +kernel
theorem dX11_rule_4 : decode cX11_rule 4 = .ok (.ifCond .eq 12, 3) := by decide +kernel
theorem dX11_rule_7 : decode cX11_rule 7 = .ok (.iload_n 2, 1) := by decide +kernel
theorem dX11_rule_8 : decode cX11_rule 8 = .ok (.ifCond .lt 8, 3) := by decide +kernel
theorem dX11_rule_11 : decode cX11_rule 11 = .ok (.iload_n 2, 1) := by decide +kernel
theorem dX11_rule_12 : decode cX11_rule 12 = .ok (.iconst 4, 1) := by decide +kernel
theorem dX11_rule_13 : decode cX11_rule 13 = .ok (.if_icmp .le 5, 3) := by decide +kernel
theorem dX11_rule_16 : decode cX11_rule 16 = .ok (.iconst (-1), 1) := by decide +kernel
theorem dX11_rule_17 : decode cX11_rule 17 = .ok (.ireturn, 1) := by decide +kernel
theorem dX11_rule_18 : decode cX11_rule 18 = .ok (.iload_n 2, 1) := by decide +kernel
theorem dX11_rule_19 : decode cX11_rule 19 = .ok (.iconst 4, 1) := by decide +kernel
theorem dX11_rule_20 : decode cX11_rule 20 = .ok (.if_icmp .ge 10, 3) := by decide +kernel
theorem dX11_rule_23 : decode cX11_rule 23 = .ok (.aload_n 0, 1) := by decide +kernel
theorem dX11_rule_24 : decode cX11_rule 24 = .ok (.iload_n 1, 1) := by decide +kernel
theorem dX11_rule_25 : decode cX11_rule 25 = .ok (.iload_n 2, 1) := by decide +kernel
theorem dX11_rule_26 : decode cX11_rule 26 = .ok (.invokevirtual 184, 3) := by decide +kernel
theorem dX11_rule_29 : decode cX11_rule 29 = .ok (.ireturn, 1) := by decide +kernel
theorem dX11_rule_30 : decode cX11_rule 30 = .ok (.iconst 0, 1) := by decide +kernel
theorem dX11_rule_31 : decode cX11_rule 31 = .ok (.istore_n 3, 1) := by decide +kernel
theorem dX11_rule_32 : decode cX11_rule 32 = .ok (.aload_n 0, 1) := by decide +kernel
theorem dX11_rule_33 : decode cX11_rule 33 = .ok (.iload_n 1, 1) := by decide +kernel
theorem dX11_rule_34 : decode cX11_rule 34 = .ok (.iconst 0, 1) := by decide +kernel
theorem dX11_rule_35 : decode cX11_rule 35 = .ok (.invokevirtual 184, 3) := by decide +kernel
theorem dX11_rule_38 : decode cX11_rule 38 = .ok (.istore 4, 2) := by decide +kernel
theorem dX11_rule_40 : decode cX11_rule 40 = .ok (.iconst 1, 1) := by decide +kernel
theorem dX11_rule_41 : decode cX11_rule 41 = .ok (.istore 5, 2) := by decide +kernel
theorem dX11_rule_43 : decode cX11_rule 43 = .ok (.iload 5, 2) := by decide +kernel
theorem dX11_rule_45 : decode cX11_rule 45 = .ok (.iconst 4, 1) := by decide +kernel
theorem dX11_rule_46 : decode cX11_rule 46 = .ok (.if_icmp .ge 32, 3) := by decide +kernel
theorem dX11_rule_49 : decode cX11_rule 49 = .ok (.aload_n 0, 1) := by decide +kernel
theorem dX11_rule_50 : decode cX11_rule 50 = .ok (.iload_n 1, 1) := by decide +kernel
theorem dX11_rule_51 : decode cX11_rule 51 = .ok (.iload 5, 2) := by decide +kernel
theorem dX11_rule_53 : decode cX11_rule 53 = .ok (.invokevirtual 184, 3) := by decide +kernel
theorem dX11_rule_56 : decode cX11_rule 56 = .ok (.istore 6, 2) := by decide +kernel
theorem dX11_rule_58 : decode cX11_rule 58 = .ok (.iload 6, 2) := by decide +kernel
theorem dX11_rule_60 : decode cX11_rule 60 = .ok (.iload 4, 2) := by decide +kernel
theorem dX11_rule_62 : decode cX11_rule 62 = .ok (.if_icmp .le 10, 3) := by decide +kernel
theorem dX11_rule_65 : decode cX11_rule 65 = .ok (.iload 6, 2) := by decide +kernel
theorem dX11_rule_67 : decode cX11_rule 67 = .ok (.istore 4, 2) := by decide +kernel
theorem dX11_rule_69 : decode cX11_rule 69 = .ok (.iload 5, 2) := by decide +kernel
theorem dX11_rule_71 : decode cX11_rule 71 = .ok (.istore_n 3, 1) := by decide +kernel
theorem dX11_rule_72 : decode cX11_rule 72 = .ok (.iinc 5 1, 3) := by decide +kernel
theorem dX11_rule_75 : decode cX11_rule 75 = .ok (.goto (-32), 3) := by decide +kernel
theorem dX11_rule_78 : decode cX11_rule 78 = .ok (.iload_n 3, 1) := by decide +kernel
theorem dX11_rule_79 : decode cX11_rule 79 = .ok (.ireturn, 1) := by decide +kernel
theorem dX11_waits_0 : decode cX11_waits 0 = .ok (.iload_n 1, 1) := by decide +kernel
theorem dX11_waits_1 : decode cX11_waits 1 = .ok (.invokestatic 95, 3) := by decide +kernel
theorem dX11_waits_4 : decode cX11_waits 4 = .ok (.ifCond .eq 16, 3) := by decide +kernel
theorem dX11_waits_7 : decode cX11_waits 7 = .ok (.iload_n 2, 1) := by decide +kernel
theorem dX11_waits_8 : decode cX11_waits 8 = .ok (.invokestatic 160, 3) := by decide +kernel
theorem dX11_waits_11 : decode cX11_waits 11 = .ok (.ifCond .eq 9, 3) := by decide +kernel
theorem dX11_waits_14 : decode cX11_waits 14 = .ok (.iload_n 3, 1) := by decide +kernel
theorem dX11_waits_15 : decode cX11_waits 15 = .ok (.bipush (-2), 2) := by decide +kernel
theorem dX11_waits_17 : decode cX11_waits 17 = .ok (.if_icmp .ge 5, 3) := by decide +kernel
theorem dX11_waits_20 : decode cX11_waits 20 = .ok (.iconst (-1), 1) := by decide +kernel
theorem dX11_waits_21 : decode cX11_waits 21 = .ok (.ireturn, 1) := by decide +kernel
theorem dX11_waits_22 : decode cX11_waits 22 = .ok (.aload_n 0, 1) := by decide +kernel
theorem dX11_waits_23 : decode cX11_waits 23 = .ok (.getfield 72, 3) := by decide +kernel
theorem dX11_waits_26 : decode cX11_waits 26 = .ok (.iload_n 1, 1) := by decide +kernel
theorem dX11_waits_27 : decode cX11_waits 27 = .ok (.invokevirtual 163, 3) := by decide +kernel
theorem dX11_waits_30 : decode cX11_waits 30 = .ok (.istore 4, 2) := by decide +kernel
theorem dX11_waits_32 : decode cX11_waits 32 = .ok (.iload 4, 2) := by decide +kernel
theorem dX11_waits_34 : decode cX11_waits 34 = .ok (.ifCond .eq 6, 3) := by decide +kernel
theorem dX11_waits_37 : decode cX11_waits 37 = .ok (.iload 4, 2) := by decide +kernel
theorem dX11_waits_39 : decode cX11_waits 39 = .ok (.ireturn, 1) := by decide +kernel
theorem dX11_waits_40 : decode cX11_waits 40 = .ok (.aload_n 0, 1) := by decide +kernel
theorem dX11_waits_41 : decode cX11_waits 41 = .ok (.getfield 51, 3) := by decide +kernel
theorem dX11_waits_44 : decode cX11_waits 44 = .ok (.aload_n 0, 1) := by decide +kernel
theorem dX11_waits_45 : decode cX11_waits 45 = .ok (.getfield 72, 3) := by decide +kernel
theorem dX11_waits_48 : decode cX11_waits 48 = .ok (.iload_n 1, 1) := by decide +kernel
theorem dX11_waits_49 : decode cX11_waits 49 = .ok (.bipush 10, 2) := by decide +kernel
theorem dX11_waits_51 : decode cX11_waits 51 = .ok (.invokevirtual 187, 3) := by decide +kernel
theorem dX11_waits_54 : decode cX11_waits 54 = .ok (.iload_n 3, 1) := by decide +kernel
theorem dX11_waits_55 : decode cX11_waits 55 = .ok (.aload_n 0, 1) := by decide +kernel
theorem dX11_waits_56 : decode cX11_waits 56 = .ok (.getfield 51, 3) := by decide +kernel
theorem dX11_waits_59 : decode cX11_waits 59 = .ok (.getfield 191, 3) := by decide +kernel
theorem dX11_waits_62 : decode cX11_waits 62 = .ok (.if_icmp .lt 6, 3) := by decide +kernel
theorem dX11_waits_65 : decode cX11_waits 65 = .ok (.bipush (-2), 2) := by decide +kernel
theorem dX11_waits_67 : decode cX11_waits 67 = .ok (.ireturn, 1) := by decide +kernel
theorem dX11_waits_68 : decode cX11_waits 68 = .ok (.aload_n 0, 1) := by decide +kernel
theorem dX11_waits_69 : decode cX11_waits 69 = .ok (.getfield 35, 3) := by decide +kernel
theorem dX11_waits_72 : decode cX11_waits 72 = .ok (.aload_n 0, 1) := by decide +kernel
theorem dX11_waits_73 : decode cX11_waits 73 = .ok (.getfield 51, 3) := by decide +kernel
theorem dX11_waits_76 : decode cX11_waits 76 = .ok (.getfield 176, 3) := by decide +kernel
theorem dX11_waits_79 : decode cX11_waits 79 = .ok (.aload_n 0, 1) := by decide +kernel
theorem dX11_waits_80 : decode cX11_waits 80 = .ok (.getfield 42, 3) := by decide +kernel
theorem dX11_waits_83 : decode cX11_waits 83 = .ok (.getfield 126, 3) := by decide +kernel
theorem dX11_waits_86 : decode cX11_waits 86 = .ok (.invokevirtual 194, 3) := by decide +kernel
theorem dX11_waits_89 : decode cX11_waits 89 = .ok (.aload_n 0, 1) := by decide +kernel
theorem dX11_waits_90 : decode cX11_waits 90 = .ok (.getfield 51, 3) := by decide +kernel
theorem dX11_waits_93 : decode cX11_waits 93 = .ok (.iload_n 2, 1) := by decide +kernel
theorem dX11_waits_94 : decode cX11_waits 94 = .ok (.invokevirtual 198, 3) := by decide +kernel
theorem dX11_waits_97 : decode cX11_waits 97 = .ok (.iload_n 3, 1) := by decide +kernel
theorem dX11_waits_98 : decode cX11_waits 98 = .ok (.bipush (-2), 2) := by decide +kernel
theorem dX11_waits_100 : decode cX11_waits 100 = .ok (.if_icmp .ne 14, 3) := by decide +kernel
theorem dX11_waits_103 : decode cX11_waits 103 = .ok (.aload_n 0, 1) := by decide +kernel
theorem dX11_waits_104 : decode cX11_waits 104 = .ok (.getfield 51, 3) := by decide +kernel
theorem dX11_waits_107 : decode cX11_waits 107 = .ok (.getfield 176, 3) := by decide +kernel
theorem dX11_waits_110 : decode cX11_waits 110 = .ok (.getfield 130, 3) := by decide +kernel
theorem dX11_waits_113 : decode cX11_waits 113 = .ok (.ireturn, 1) := by decide +kernel
theorem dX11_waits_114 : decode cX11_waits 114 = .ok (.iload_n 3, 1) := by decide +kernel
theorem dX11_waits_115 : decode cX11_waits 115 = .ok (.iconst (-1), 1) := by decide +kernel
theorem dX11_waits_116 : decode cX11_waits 116 = .ok (.if_icmp .ne 13, 3) := by decide +kernel
theorem dX11_waits_119 : decode cX11_waits 119 = .ok (.aload_n 0, 1) := by decide +kernel
theorem dX11_waits_120 : decode cX11_waits 120 = .ok (.getfield 51, 3) := by decide +kernel
theorem dX11_waits_123 : decode cX11_waits 123 = .ok (.invokevirtual 202, 3) := by decide +kernel
theorem dX11_waits_126 : decode cX11_waits 126 = .ok (.goto 11, 3) := by decide +kernel
theorem dX11_waits_129 : decode cX11_waits 129 = .ok (.aload_n 0, 1) := by decide +kernel
theorem dX11_waits_130 : decode cX11_waits 130 = .ok (.getfield 51, 3) := by decide +kernel
theorem dX11_waits_133 : decode cX11_waits 133 = .ok (.iload_n 3, 1) := by decide +kernel
theorem dX11_waits_134 : decode cX11_waits 134 = .ok (.invokevirtual 205, 3) := by decide +kernel
theorem dX11_waits_137 : decode cX11_waits 137 = .ok (.ireturn, 1) := by decide +kernel

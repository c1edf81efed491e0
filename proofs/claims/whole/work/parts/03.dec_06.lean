theorem dX12_asksGoes_0 : decode cX12_asksGoes 0 = .ok (.aload_n 0, 1) := by decide +kernel
theorem dX12_asksGoes_1 : decode cX12_asksGoes 1 = .ok (.iconst 0, 1) := by decide +kernel
theorem dX12_asksGoes_2 : decode cX12_asksGoes 2 = .ok (.putfield 305, 3) := by decide +kernel
theorem dX12_asksGoes_5 : decode cX12_asksGoes 5 = .ok (.aload_n 0, 1) := by decide +kernel
theorem dX12_asksGoes_6 : decode cX12_asksGoes 6 = .ok (.getfield 305, 3) := by decide +kernel
theorem dX12_asksGoes_9 : decode cX12_asksGoes 9 = .ok (.iconst 4, 1) := by decide +kernel
theorem dX12_asksGoes_10 : decode cX12_asksGoes 10 = .ok (.if_icmp .ge 46, 3) := by decide +kernel
theorem dX12_asksGoes_13 : decode cX12_asksGoes 13 = .ok (.aload_n 0, 1) := by decide +kernel
theorem dX12_asksGoes_14 : decode cX12_asksGoes 14 = .ok (.getfield 305, 3) := by decide +kernel
theorem dX12_asksGoes_17 : decode cX12_asksGoes 17 = .ok (.aload_n 0, 1) := by decide +kernel
theorem dX12_asksGoes_18 : decode cX12_asksGoes 18 = .ok (.iload_n 1, 1) := by decide +kernel
theorem dX12_asksGoes_19 : decode cX12_asksGoes 19 = .ok (.invokevirtual 258, 3) := by decide +kernel
theorem dX12_asksGoes_22 : decode cX12_asksGoes 22 = .ok (.if_icmp .ge 34, 3) := by decide +kernel
theorem dX12_asksGoes_25 : decode cX12_asksGoes 25 = .ok (.aload_n 0, 1) := by decide +kernel
theorem dX12_asksGoes_26 : decode cX12_asksGoes 26 = .ok (.getfield 52, 3) := by decide +kernel
theorem dX12_asksGoes_29 : decode cX12_asksGoes 29 = .ok (.aload_n 0, 1) := by decide +kernel
theorem dX12_asksGoes_30 : decode cX12_asksGoes 30 = .ok (.getfield 305, 3) := by decide +kernel
theorem dX12_asksGoes_33 : decode cX12_asksGoes 33 = .ok (.aload_n 0, 1) := by decide +kernel
theorem dX12_asksGoes_34 : decode cX12_asksGoes 34 = .ok (.iload_n 1, 1) := by decide +kernel
theorem dX12_asksGoes_35 : decode cX12_asksGoes 35 = .ok (.aload_n 0, 1) := by decide +kernel
theorem dX12_asksGoes_36 : decode cX12_asksGoes 36 = .ok (.getfield 305, 3) := by decide +kernel
theorem dX12_asksGoes_39 : decode cX12_asksGoes 39 = .ok (.invokevirtual 246, 3) := by decide +kernel
theorem dX12_asksGoes_42 : decode cX12_asksGoes 42 = .ok (.iastore, 1) := by decide +kernel
theorem dX12_asksGoes_43 : decode cX12_asksGoes 43 = .ok (.aload_n 0, 1) := by decide +kernel
theorem dX12_asksGoes_44 : decode cX12_asksGoes 44 = .ok (.dup, 1) := by decide +kernel
theorem dX12_asksGoes_45 : decode cX12_asksGoes 45 = .ok (.getfield 305, 3) := by decide +kernel
theorem dX12_asksGoes_48 : decode cX12_asksGoes 48 = .ok (.iconst 1, 1) := by decide +kernel
theorem dX12_asksGoes_49 : decode cX12_asksGoes 49 = .ok (.iadd, 1) := by decide +kernel
theorem dX12_asksGoes_50 : decode cX12_asksGoes 50 = .ok (.putfield 305, 3) := by decide +kernel
theorem dX12_asksGoes_53 : decode cX12_asksGoes 53 = .ok (.goto (-48), 3) := by decide +kernel
theorem dX12_asksGoes_56 : decode cX12_asksGoes 56 = .ok (.return_, 1) := by decide +kernel
theorem dX12_asksThin_0 : decode cX12_asksThin 0 = .ok (.aload_n 0, 1) := by decide +kernel
theorem dX12_asksThin_1 : decode cX12_asksThin 1 = .ok (.iload_n 1, 1) := by decide +kernel
theorem dX12_asksThin_2 : decode cX12_asksThin 2 = .ok (.putfield 213, 3) := by decide +kernel
theorem dX12_asksThin_5 : decode cX12_asksThin 5 = .ok (.aload_n 0, 1) := by decide +kernel
theorem dX12_asksThin_6 : decode cX12_asksThin 6 = .ok (.iconst 0, 1) := by decide +kernel
theorem dX12_asksThin_7 : decode cX12_asksThin 7 = .ok (.putfield 216, 3) := by decide +kernel
theorem dX12_asksThin_10 : decode cX12_asksThin 10 = .ok (.aload_n 0, 1) := by decide +kernel
theorem dX12_asksThin_11 : decode cX12_asksThin 11 = .ok (.getfield 216, 3) := by decide +kernel
theorem dX12_asksThin_14 : decode cX12_asksThin 14 = .ok (.sipush 256, 3) := by decide +kernel
theorem dX12_asksThin_17 : decode cX12_asksThin 17 = .ok (.if_icmp .ge 62, 3) := by decide +kernel
theorem dX12_asksThin_20 : decode cX12_asksThin 20 = .ok (.aload_n 0, 1) := by decide +kernel
theorem dX12_asksThin_21 : decode cX12_asksThin 21 = .ok (.invokevirtual 146, 3) := by decide +kernel
theorem dX12_asksThin_24 : decode cX12_asksThin 24 = .ok (.iconst 1, 1) := by decide +kernel
theorem dX12_asksThin_25 : decode cX12_asksThin 25 = .ok (.istore_n 2, 1) := by decide +kernel
theorem dX12_asksThin_26 : decode cX12_asksThin 26 = .ok (.iconst 0, 1) := by decide +kernel
theorem dX12_asksThin_27 : decode cX12_asksThin 27 = .ok (.istore_n 3, 1) := by decide +kernel
theorem dX12_asksThin_28 : decode cX12_asksThin 28 = .ok (.iload_n 3, 1) := by decide +kernel
theorem dX12_asksThin_29 : decode cX12_asksThin 29 = .ok (.aload_n 0, 1) := by decide +kernel
theorem dX12_asksThin_30 : decode cX12_asksThin 30 = .ok (.getfield 305, 3) := by decide +kernel
theorem dX12_asksThin_33 : decode cX12_asksThin 33 = .ok (.if_icmp .ge 23, 3) := by decide +kernel
theorem dX12_asksThin_36 : decode cX12_asksThin 36 = .ok (.iload_n 2, 1) := by decide +kernel
theorem dX12_asksThin_37 : decode cX12_asksThin 37 = .ok (.aload_n 0, 1) := by decide +kernel
theorem dX12_asksThin_38 : decode cX12_asksThin 38 = .ok (.aload_n 0, 1) := by decide +kernel
theorem dX12_asksThin_39 : decode cX12_asksThin 39 = .ok (.getfield 52, 3) := by decide +kernel
theorem dX12_asksThin_42 : decode cX12_asksThin 42 = .ok (.iload_n 3, 1) := by decide +kernel
theorem dX12_asksThin_43 : decode cX12_asksThin 43 = .ok (.iaload, 1) := by decide +kernel
theorem dX12_asksThin_44 : decode cX12_asksThin 44 = .ok (.iload_n 1, 1) := by decide +kernel
theorem dX12_asksThin_45 : decode cX12_asksThin 45 = .ok (.invokevirtual 249, 3) := by decide +kernel
theorem dX12_asksThin_48 : decode cX12_asksThin 48 = .ok (.iand, 1) := by decide +kernel
theorem dX12_asksThin_49 : decode cX12_asksThin 49 = .ok (.istore_n 2, 1) := by decide +kernel
theorem dX12_asksThin_50 : decode cX12_asksThin 50 = .ok (.iinc 3 1, 3) := by decide +kernel
theorem dX12_asksThin_53 : decode cX12_asksThin 53 = .ok (.goto (-25), 3) := by decide +kernel
theorem dX12_asksThin_56 : decode cX12_asksThin 56 = .ok (.aload_n 0, 1) := by decide +kernel
theorem dX12_asksThin_57 : decode cX12_asksThin 57 = .ok (.getfield 55, 3) := by decide +kernel
theorem dX12_asksThin_60 : decode cX12_asksThin 60 = .ok (.aload_n 0, 1) := by decide +kernel
theorem dX12_asksThin_61 : decode cX12_asksThin 61 = .ok (.getfield 216, 3) := by decide +kernel
theorem dX12_asksThin_64 : decode cX12_asksThin 64 = .ok (.iload_n 2, 1) := by decide +kernel
theorem dX12_asksThin_65 : decode cX12_asksThin 65 = .ok (.bastore, 1) := by decide +kernel
theorem dX12_asksThin_66 : decode cX12_asksThin 66 = .ok (.aload_n 0, 1) := by decide +kernel
theorem dX12_asksThin_67 : decode cX12_asksThin 67 = .ok (.dup, 1) := by decide +kernel
theorem dX12_asksThin_68 : decode cX12_asksThin 68 = .ok (.getfield 216, 3) := by decide +kernel
theorem dX12_asksThin_71 : decode cX12_asksThin 71 = .ok (.iconst 1, 1) := by decide +kernel
theorem dX12_asksThin_72 : decode cX12_asksThin 72 = .ok (.iadd, 1) := by decide +kernel
theorem dX12_asksThin_73 : decode cX12_asksThin 73 = .ok (.putfield 216, 3) := by decide +kernel
theorem dX12_asksThin_76 : decode cX12_asksThin 76 = .ok (.goto (-66), 3) := by decide +kernel
theorem dX12_asksThin_79 : decode cX12_asksThin 79 = .ok (.aload_n 0, 1) := by decide +kernel
theorem dX12_asksThin_80 : decode cX12_asksThin 80 = .ok (.iconst 0, 1) := by decide +kernel
theorem dX12_asksThin_81 : decode cX12_asksThin 81 = .ok (.putfield 216, 3) := by decide +kernel
theorem dX12_asksThin_84 : decode cX12_asksThin 84 = .ok (.return_, 1) := by decide +kernel
theorem dX12_likelyWays_0 : decode cX12_likelyWays 0 = .ok (.lconst 0, 1) := by decide +kernel
theorem dX12_likelyWays_1 : decode cX12_likelyWays 1 = .ok (.lstore_n 3, 1) := by decide +kernel
theorem dX12_likelyWays_2 : decode cX12_likelyWays 2 = .ok (.iconst 0, 1) := by decide +kernel
theorem dX12_likelyWays_3 : decode cX12_likelyWays 3 = .ok (.istore 5, 2) := by decide +kernel
theorem dX12_likelyWays_5 : decode cX12_likelyWays 5 = .ok (.iload 5, 2) := by decide +kernel
theorem dX12_likelyWays_7 : decode cX12_likelyWays 7 = .ok (.sipush 256, 3) := by decide +kernel
theorem dX12_likelyWays_10 : decode cX12_likelyWays 10 = .ok (.if_icmp .ge 34, 3) := by decide +kernel
theorem dX12_likelyWays_13 : decode cX12_likelyWays 13 = .ok (.lload_n 3, 1) := by decide +kernel
theorem dX12_likelyWays_14 : decode cX12_likelyWays 14 = .ok (.aload_n 0, 1) := by decide +kernel
theorem dX12_likelyWays_15 : decode cX12_likelyWays 15 = .ok (.getfield 55, 3) := by decide +kernel
theorem dX12_likelyWays_18 : decode cX12_likelyWays 18 = .ok (.iload 5, 2) := by decide +kernel
theorem dX12_likelyWays_20 : decode cX12_likelyWays 20 = .ok (.baload, 1) := by decide +kernel
theorem dX12_likelyWays_21 : decode cX12_likelyWays 21 = .ok (.ifCond .eq 14, 3) := by decide +kernel
theorem dX12_likelyWays_24 : decode cX12_likelyWays 24 = .ok (.aload_n 0, 1) := by decide +kernel
theorem dX12_likelyWays_25 : decode cX12_likelyWays 25 = .ok (.iload_n 1, 1) := by decide +kernel
theorem dX12_likelyWays_26 : decode cX12_likelyWays 26 = .ok (.iload 5, 2) := by decide +kernel
theorem dX12_likelyWays_28 : decode cX12_likelyWays 28 = .ok (.iload_n 2, 1) := by decide +kernel
theorem dX12_likelyWays_29 : decode cX12_likelyWays 29 = .ok (.invokevirtual 308, 3) := by decide +kernel
theorem dX12_likelyWays_32 : decode cX12_likelyWays 32 = .ok (.goto 4, 3) := by decide +kernel
theorem dX12_likelyWays_35 : decode cX12_likelyWays 35 = .ok (.lconst 0, 1) := by decide +kernel
theorem dX12_likelyWays_36 : decode cX12_likelyWays 36 = .ok (.ladd, 1) := by decide +kernel
theorem dX12_likelyWays_37 : decode cX12_likelyWays 37 = .ok (.lstore_n 3, 1) := by decide +kernel
theorem dX12_likelyWays_38 : decode cX12_likelyWays 38 = .ok (.iinc 5 1, 3) := by decide +kernel
theorem dX12_likelyWays_41 : decode cX12_likelyWays 41 = .ok (.goto (-36), 3) := by decide +kernel
theorem dX12_likelyWays_44 : decode cX12_likelyWays 44 = .ok (.lload_n 3, 1) := by decide +kernel
theorem dX12_likelyWays_45 : decode cX12_likelyWays 45 = .ok (.lreturn, 1) := by decide +kernel
theorem dX12_commonOf_0 : decode cX12_commonOf 0 = .ok (.lload_n 0, 1) := by decide +kernel
theorem dX12_commonOf_1 : decode cX12_commonOf 1 = .ok (.lstore 4, 2) := by decide +kernel
theorem dX12_commonOf_3 : decode cX12_commonOf 3 = .ok (.lload_n 2, 1) := by decide +kernel
theorem dX12_commonOf_4 : decode cX12_commonOf 4 = .ok (.lstore 6, 2) := by decide +kernel
theorem dX12_commonOf_6 : decode cX12_commonOf 6 = .ok (.lload 6, 2) := by decide +kernel
theorem dX12_commonOf_8 : decode cX12_commonOf 8 = .ok (.lconst 0, 1) := by decide +kernel
theorem dX12_commonOf_9 : decode cX12_commonOf 9 = .ok (.lcmp, 1) := by decide +kernel
theorem dX12_commonOf_10 : decode cX12_commonOf 10 = .ok (.ifCond .eq 21, 3) := by decide +kernel
theorem dX12_commonOf_13 : decode cX12_commonOf 13 = .ok (.lload 4, 2) := by decide +kernel
theorem dX12_commonOf_15 : decode cX12_commonOf 15 = .ok (.lload 6, 2) := by decide +kernel
theorem dX12_commonOf_17 : decode cX12_commonOf 17 = .ok (.lrem, 1) := by decide +kernel
theorem dX12_commonOf_18 : decode cX12_commonOf 18 = .ok (.lstore 8, 2) := by decide +kernel
theorem dX12_commonOf_20 : decode cX12_commonOf 20 = .ok (.lload 6, 2) := by decide +kernel
theorem dX12_commonOf_22 : decode cX12_commonOf 22 = .ok (.lstore 4, 2) := by decide +kernel
theorem dX12_commonOf_24 : decode cX12_commonOf 24 = .ok (.lload 8, 2) := by decide +kernel
theorem dX12_commonOf_26 : decode cX12_commonOf 26 = .ok (.lstore 6, 2) := by decide +kernel
theorem dX12_commonOf_28 : decode cX12_commonOf 28 = .ok (.goto (-22), 3) := by decide +kernel
theorem dX12_commonOf_31 : decode cX12_commonOf 31 = .ok (.lload 4, 2) := by decide +kernel
theorem dX12_commonOf_33 : decode cX12_commonOf 33 = .ok (.lreturn, 1) := by decide +kernel
theorem dX12_partOf_0 : decode cX12_partOf 0 = .ok (.lload_n 0, 1) := by decide +kernel
theorem dX12_partOf_1 : decode cX12_partOf 1 = .ok (.lconst 0, 1) := by decide +kernel
theorem dX12_partOf_2 : decode cX12_partOf 2 = .ok (.lcmp, 1) := by decide +kernel
theorem dX12_partOf_3 : decode cX12_partOf 3 = .ok (.ifCond .ne 7, 3) := by decide +kernel
theorem dX12_partOf_6 : decode cX12_partOf 6 = .ok (.iload 4, 2) := by decide +kernel
theorem dX12_partOf_8 : decode cX12_partOf 8 = .ok (.i2l, 1) := by decide +kernel
theorem dX12_partOf_9 : decode cX12_partOf 9 = .ok (.lreturn, 1) := by decide +kernel
theorem dX12_partOf_10 : decode cX12_partOf 10 = .ok (.lload_n 2, 1) := by decide +kernel
theorem dX12_partOf_11 : decode cX12_partOf 11 = .ok (.lload_n 0, 1) := by decide +kernel
theorem dX12_partOf_12 : decode cX12_partOf 12 = .ok (.invokestatic 312, 3) := by decide +kernel
theorem dX12_partOf_15 : decode cX12_partOf 15 = .ok (.lstore 5, 2) := by decide +kernel
theorem dX12_partOf_17 : decode cX12_partOf 17 = .ok (.iload 4, 2) := by decide +kernel
theorem dX12_partOf_19 : decode cX12_partOf 19 = .ok (.ifCond .ne 10, 3) := by decide +kernel
theorem dX12_partOf_22 : decode cX12_partOf 22 = .ok (.lload_n 0, 1) := by decide +kernel
theorem dX12_partOf_23 : decode cX12_partOf 23 = .ok (.lload 5, 2) := by decide +kernel
theorem dX12_partOf_25 : decode cX12_partOf 25 = .ok (.ldiv, 1) := by decide +kernel
theorem dX12_partOf_26 : decode cX12_partOf 26 = .ok (.goto 7, 3) := by decide +kernel
theorem dX12_partOf_29 : decode cX12_partOf 29 = .ok (.lload_n 2, 1) := by decide +kernel
theorem dX12_partOf_30 : decode cX12_partOf 30 = .ok (.lload 5, 2) := by decide +kernel
theorem dX12_partOf_32 : decode cX12_partOf 32 = .ok (.ldiv, 1) := by decide +kernel
theorem dX12_partOf_33 : decode cX12_partOf 33 = .ok (.lreturn, 1) := by decide +kernel
theorem dX12_unsure_0 : decode cX12_unsure 0 = .ok (.aload_n 0, 1) := by decide +kernel
theorem dX12_unsure_1 : decode cX12_unsure 1 = .ok (.iload_n 1, 1) := by decide +kernel
theorem dX12_unsure_2 : decode cX12_unsure 2 = .ok (.invokevirtual 252, 3) := by decide +kernel
theorem dX12_unsure_5 : decode cX12_unsure 5 = .ok (.iconst 1, 1) := by decide +kernel
theorem dX12_unsure_6 : decode cX12_unsure 6 = .ok (.if_icmp .ne 21, 3) := by decide +kernel
theorem dX12_unsure_9 : decode cX12_unsure 9 = .ok (.iload_n 2, 1) := by decide +kernel
theorem dX12_unsure_10 : decode cX12_unsure 10 = .ok (.i2l, 1) := by decide +kernel
theorem dX12_unsure_11 : decode cX12_unsure 11 = .ok (.invokestatic 255, 3) := by decide +kernel
theorem dX12_unsure_14 : decode cX12_unsure 14 = .ok (.ifCond .eq 13, 3) := by decide +kernel
theorem dX12_unsure_17 : decode cX12_unsure 17 = .ok (.iload_n 3, 1) := by decide +kernel
theorem dX12_unsure_18 : decode cX12_unsure 18 = .ok (.i2l, 1) := by decide +kernel
theorem dX12_unsure_19 : decode cX12_unsure 19 = .ok (.lconst 0, 1) := by decide +kernel
theorem dX12_unsure_20 : decode cX12_unsure 20 = .ok (.lconst 1, 1) := by decide +kernel
theorem dX12_unsure_21 : decode cX12_unsure 21 = .ok (.invokestatic 96, 3) := by decide +kernel
theorem dX12_unsure_24 : decode cX12_unsure 24 = .ok (.ifCond .ne 7, 3) := by decide +kernel
theorem dX12_unsure_27 : decode cX12_unsure 27 = .ok (.ldc2_w 316, 3) := by decide +kernel
theorem dX12_unsure_30 : decode cX12_unsure 30 = .ok (.lreturn, 1) := by decide +kernel
theorem dX12_unsure_31 : decode cX12_unsure 31 = .ok (.aload_n 0, 1) := by decide +kernel
theorem dX12_unsure_32 : decode cX12_unsure 32 = .ok (.iload_n 1, 1) := by decide +kernel
theorem dX12_unsure_33 : decode cX12_unsure 33 = .ok (.invokevirtual 318, 3) := by decide +kernel
theorem dX12_unsure_36 : decode cX12_unsure 36 = .ok (.aload_n 0, 1) := by decide +kernel
theorem dX12_unsure_37 : decode cX12_unsure 37 = .ok (.iload_n 2, 1) := by decide +kernel
theorem dX12_unsure_38 : decode cX12_unsure 38 = .ok (.invokevirtual 321, 3) := by decide +kernel
theorem dX12_unsure_41 : decode cX12_unsure 41 = .ok (.aload_n 0, 1) := by decide +kernel
theorem dX12_unsure_42 : decode cX12_unsure 42 = .ok (.iload_n 2, 1) := by decide +kernel
theorem dX12_unsure_43 : decode cX12_unsure 43 = .ok (.iconst (-1), 1) := by decide +kernel
theorem dX12_unsure_44 : decode cX12_unsure 44 = .ok (.invokevirtual 324, 3) := by decide +kernel
theorem dX12_unsure_47 : decode cX12_unsure 47 = .ok (.ldc2_w 328, 3) := by decide +kernel
theorem dX12_unsure_50 : decode cX12_unsure 50 = .ok (.iload_n 3, 1) := by decide +kernel
theorem dX12_unsure_51 : decode cX12_unsure 51 = .ok (.invokestatic 330, 3) := by decide +kernel
theorem dX12_unsure_54 : decode cX12_unsure 54 = .ok (.lreturn, 1) := by decide +kernel
theorem dX12_bore_0 : decode cX12_bore 0 = .ok (.aload_n 0, 1) := by decide +kernel
theorem dX12_bore_1 : decode cX12_bore 1 = .ok (.iload_n 1, 1) := by decide +kernel
theorem dX12_bore_2 : decode cX12_bore 2 = .ok (.invokevirtual 252, 3) := by decide +kernel
theorem dX12_bore_5 : decode cX12_bore 5 = .ok (.iconst 1, 1) := by decide +kernel
theorem dX12_bore_6 : decode cX12_bore 6 = .ok (.if_icmp .ne 23, 3) := by decide +kernel
theorem dX12_bore_9 : decode cX12_bore 9 = .ok (.iload_n 2, 1) := by decide +kernel
theorem dX12_bore_10 : decode cX12_bore 10 = .ok (.i2l, 1) := by decide +kernel
theorem dX12_bore_11 : decode cX12_bore 11 = .ok (.invokestatic 255, 3) := by decide +kernel
theorem dX12_bore_14 : decode cX12_bore 14 = .ok (.ifCond .eq 15, 3) := by decide +kernel
theorem dX12_bore_17 : decode cX12_bore 17 = .ok (.iload_n 3, 1) := by decide +kernel
theorem dX12_bore_18 : decode cX12_bore 18 = .ok (.i2l, 1) := by decide +kernel
theorem dX12_bore_19 : decode cX12_bore 19 = .ok (.lconst 0, 1) := by decide +kernel
theorem dX12_bore_20 : decode cX12_bore 20 = .ok (.ldc2_w 100, 3) := by decide +kernel
theorem dX12_bore_23 : decode cX12_bore 23 = .ok (.invokestatic 96, 3) := by decide +kernel
theorem dX12_bore_26 : decode cX12_bore 26 = .ok (.ifCond .ne 7, 3) := by decide +kernel
theorem dX12_bore_29 : decode cX12_bore 29 = .ok (.ldc2_w 316, 3) := by decide +kernel
theorem dX12_bore_32 : decode cX12_bore 32 = .ok (.lreturn, 1) := by decide +kernel
theorem dX12_bore_33 : decode cX12_bore 33 = .ok (.aload_n 0, 1) := by decide +kernel
theorem dX12_bore_34 : decode cX12_bore 34 = .ok (.iload_n 1, 1) := by decide +kernel
theorem dX12_bore_35 : decode cX12_bore 35 = .ok (.invokevirtual 318, 3) := by decide +kernel
theorem dX12_bore_38 : decode cX12_bore 38 = .ok (.aload_n 0, 1) := by decide +kernel
theorem dX12_bore_39 : decode cX12_bore 39 = .ok (.iload_n 2, 1) := by decide +kernel
theorem dX12_bore_40 : decode cX12_bore 40 = .ok (.invokevirtual 321, 3) := by decide +kernel
theorem dX12_bore_43 : decode cX12_bore 43 = .ok (.iconst 0, 1) := by decide +kernel
theorem dX12_bore_44 : decode cX12_bore 44 = .ok (.istore 4, 2) := by decide +kernel
theorem dX12_bore_46 : decode cX12_bore 46 = .ok (.ldc2_w 334, 3) := by decide +kernel
theorem dX12_bore_49 : decode cX12_bore 49 = .ok (.lstore 5, 2) := by decide +kernel
theorem dX12_bore_51 : decode cX12_bore 51 = .ok (.iconst 0, 1) := by decide +kernel
theorem dX12_bore_52 : decode cX12_bore 52 = .ok (.istore 7, 2) := by decide +kernel
theorem dX12_bore_54 : decode cX12_bore 54 = .ok (.iload 7, 2) := by decide +kernel
theorem dX12_bore_56 : decode cX12_bore 56 = .ok (.bipush 8, 2) := by decide +kernel
theorem dX12_bore_58 : decode cX12_bore 58 = .ok (.if_icmp .ge 52, 3) := by decide +kernel
theorem dX12_bore_61 : decode cX12_bore 61 = .ok (.aload_n 0, 1) := by decide +kernel
theorem dX12_bore_62 : decode cX12_bore 62 = .ok (.iload_n 2, 1) := by decide +kernel
theorem dX12_bore_63 : decode cX12_bore 63 = .ok (.iload 7, 2) := by decide +kernel
theorem dX12_bore_65 : decode cX12_bore 65 = .ok (.invokevirtual 324, 3) := by decide +kernel
theorem dX12_bore_68 : decode cX12_bore 68 = .ok (.lstore 8, 2) := by decide +kernel
theorem dX12_bore_70 : decode cX12_bore 70 = .ok (.lload 8, 2) := by decide +kernel
theorem dX12_bore_72 : decode cX12_bore 72 = .ok (.lload 5, 2) := by decide +kernel
theorem dX12_bore_74 : decode cX12_bore 74 = .ok (.lcmp, 1) := by decide +kernel
theorem dX12_bore_75 : decode cX12_bore 75 = .ok (.ifCond .le 8, 3) := by decide +kernel
theorem dX12_bore_78 : decode cX12_bore 78 = .ok (.iload 7, 2) := by decide +kernel
theorem dX12_bore_80 : decode cX12_bore 80 = .ok (.goto 5, 3) := by decide +kernel
theorem dX12_bore_83 : decode cX12_bore 83 = .ok (.iload 4, 2) := by decide +kernel
theorem dX12_bore_85 : decode cX12_bore 85 = .ok (.istore 4, 2) := by decide +kernel
theorem dX12_bore_87 : decode cX12_bore 87 = .ok (.lload 8, 2) := by decide +kernel
theorem dX12_bore_89 : decode cX12_bore 89 = .ok (.lload 5, 2) := by decide +kernel
theorem dX12_bore_91 : decode cX12_bore 91 = .ok (.lcmp, 1) := by decide +kernel
theorem dX12_bore_92 : decode cX12_bore 92 = .ok (.ifCond .le 8, 3) := by decide +kernel
theorem dX12_bore_95 : decode cX12_bore 95 = .ok (.lload 8, 2) := by decide +kernel
theorem dX12_bore_97 : decode cX12_bore 97 = .ok (.goto 5, 3) := by decide +kernel
theorem dX12_bore_100 : decode cX12_bore 100 = .ok (.lload 5, 2) := by decide +kernel
theorem dX12_bore_102 : decode cX12_bore 102 = .ok (.lstore 5, 2) := by decide +kernel
theorem dX12_bore_104 : decode cX12_bore 104 = .ok (.iinc 7 1, 3) := by decide +kernel
theorem dX12_bore_107 : decode cX12_bore 107 = .ok (.goto (-53), 3) := by decide +kernel
theorem dX12_bore_110 : decode cX12_bore 110 = .ok (.iload_n 3, 1) := by decide +kernel
theorem dX12_bore_111 : decode cX12_bore 111 = .ok (.iconst 2, 1) := by decide +kernel
theorem dX12_bore_112 : decode cX12_bore 112 = .ok (.if_icmp .ne 14, 3) := by decide +kernel
theorem dX12_bore_115 : decode cX12_bore 115 = .ok (.bipush 8, 2) := by decide +kernel
theorem dX12_bore_117 : decode cX12_bore 117 = .ok (.iload_n 2, 1) := by decide +kernel
theorem dX12_bore_118 : decode cX12_bore 118 = .ok (.imul, 1) := by decide +kernel
theorem dX12_bore_119 : decode cX12_bore 119 = .ok (.iload 4, 2) := by decide +kernel
theorem dX12_bore_121 : decode cX12_bore 121 = .ok (.iadd, 1) := by decide +kernel
theorem dX12_bore_122 : decode cX12_bore 122 = .ok (.i2l, 1) := by decide +kernel
theorem dX12_bore_123 : decode cX12_bore 123 = .ok (.goto 12, 3) := by decide +kernel
theorem dX12_bore_126 : decode cX12_bore 126 = .ok (.lload 5, 2) := by decide +kernel
theorem dX12_bore_128 : decode cX12_bore 128 = .ok (.ldc2_w 328, 3) := by decide +kernel
theorem dX12_bore_131 : decode cX12_bore 131 = .ok (.iload_n 3, 1) := by decide +kernel
theorem dX12_bore_132 : decode cX12_bore 132 = .ok (.invokestatic 330, 3) := by decide +kernel
theorem dX12_bore_135 : decode cX12_bore 135 = .ok (.lreturn, 1) := by decide +kernel
theorem dX12_safe_0 : decode cX12_safe 0 = .ok (.aload_n 0, 1) := by decide +kernel
theorem dX12_safe_1 : decode cX12_safe 1 = .ok (.iload_n 1, 1) := by decide +kernel
theorem dX12_safe_2 : decode cX12_safe 2 = .ok (.i2l, 1) := by decide +kernel
theorem dX12_safe_3 : decode cX12_safe 3 = .ok (.invokevirtual 125, 3) := by decide +kernel
theorem dX12_safe_6 : decode cX12_safe 6 = .ok (.ifCond .ne 5, 3) := by decide +kernel
theorem dX12_safe_9 : decode cX12_safe 9 = .ok (.iconst (-1), 1) := by decide +kernel
theorem dX12_safe_10 : decode cX12_safe 10 = .ok (.ireturn, 1) := by decide +kernel
theorem dX12_safe_11 : decode cX12_safe 11 = .ok (.iconst 0, 1) := by decide +kernel
theorem dX12_safe_12 : decode cX12_safe 12 = .ok (.istore_n 2, 1) := by decide +kernel
theorem dX12_safe_13 : decode cX12_safe 13 = .ok (.ldc2_w 334, 3) := by decide +kernel
theorem dX12_safe_16 : decode cX12_safe 16 = .ok (.lstore_n 3, 1) := by decide +kernel
theorem dX12_safe_17 : decode cX12_safe 17 = .ok (.iconst 0, 1) := by decide +kernel
theorem dX12_safe_18 : decode cX12_safe 18 = .ok (.istore 5, 2) := by decide +kernel
theorem dX12_safe_20 : decode cX12_safe 20 = .ok (.iload 5, 2) := by decide +kernel
theorem dX12_safe_22 : decode cX12_safe 22 = .ok (.iconst 3, 1) := by decide +kernel
theorem dX12_safe_23 : decode cX12_safe 23 = .ok (.if_icmp .ge 64, 3) := by decide +kernel
theorem dX12_safe_26 : decode cX12_safe 26 = .ok (.aload_n 0, 1) := by decide +kernel
theorem dX12_safe_27 : decode cX12_safe 27 = .ok (.getfield 52, 3) := by decide +kernel
theorem dX12_safe_30 : decode cX12_safe 30 = .ok (.iconst 0, 1) := by decide +kernel
theorem dX12_safe_31 : decode cX12_safe 31 = .ok (.iload_n 1, 1) := by decide +kernel
theorem dX12_safe_32 : decode cX12_safe 32 = .ok (.iastore, 1) := by decide +kernel
theorem dX12_safe_33 : decode cX12_safe 33 = .ok (.aload_n 0, 1) := by decide +kernel
theorem dX12_safe_34 : decode cX12_safe 34 = .ok (.iconst 1, 1) := by decide +kernel
theorem dX12_safe_35 : decode cX12_safe 35 = .ok (.putfield 305, 3) := by decide +kernel
theorem dX12_safe_38 : decode cX12_safe 38 = .ok (.aload_n 0, 1) := by decide +kernel
theorem dX12_safe_39 : decode cX12_safe 39 = .ok (.iload 5, 2) := by decide +kernel
theorem dX12_safe_41 : decode cX12_safe 41 = .ok (.invokevirtual 321, 3) := by decide +kernel
theorem dX12_safe_44 : decode cX12_safe 44 = .ok (.aload_n 0, 1) := by decide +kernel
theorem dX12_safe_45 : decode cX12_safe 45 = .ok (.iload 5, 2) := by decide +kernel
theorem dX12_safe_47 : decode cX12_safe 47 = .ok (.iconst (-1), 1) := by decide +kernel
theorem dX12_safe_48 : decode cX12_safe 48 = .ok (.invokevirtual 324, 3) := by decide +kernel
theorem dX12_safe_51 : decode cX12_safe 51 = .ok (.lstore 6, 2) := by decide +kernel
theorem dX12_safe_53 : decode cX12_safe 53 = .ok (.lload 6, 2) := by decide +kernel
theorem dX12_safe_55 : decode cX12_safe 55 = .ok (.lload_n 3, 1) := by decide +kernel
theorem dX12_safe_56 : decode cX12_safe 56 = .ok (.lcmp, 1) := by decide +kernel
theorem dX12_safe_57 : decode cX12_safe 57 = .ok (.ifCond .le 8, 3) := by decide +kernel
theorem dX12_safe_60 : decode cX12_safe 60 = .ok (.iload 5, 2) := by decide +kernel
theorem dX12_safe_62 : decode cX12_safe 62 = .ok (.goto 4, 3) := by decide +kernel
theorem dX12_safe_65 : decode cX12_safe 65 = .ok (.iload_n 2, 1) := by decide +kernel
theorem dX12_safe_66 : decode cX12_safe 66 = .ok (.istore_n 2, 1) := by decide +kernel
theorem dX12_safe_67 : decode cX12_safe 67 = .ok (.lload 6, 2) := by decide +kernel
theorem dX12_safe_69 : decode cX12_safe 69 = .ok (.lload_n 3, 1) := by decide +kernel
theorem dX12_safe_70 : decode cX12_safe 70 = .ok (.lcmp, 1) := by decide +kernel
theorem dX12_safe_71 : decode cX12_safe 71 = .ok (.ifCond .le 8, 3) := by decide +kernel
theorem dX12_safe_74 : decode cX12_safe 74 = .ok (.lload 6, 2) := by decide +kernel
theorem dX12_safe_76 : decode cX12_safe 76 = .ok (.goto 4, 3) := by decide +kernel
theorem dX12_safe_79 : decode cX12_safe 79 = .ok (.lload_n 3, 1) := by decide +kernel
theorem dX12_safe_80 : decode cX12_safe 80 = .ok (.lstore_n 3, 1) := by decide +kernel
theorem dX12_safe_81 : decode cX12_safe 81 = .ok (.iinc 5 1, 3) := by decide +kernel
theorem dX12_safe_84 : decode cX12_safe 84 = .ok (.goto (-64), 3) := by decide +kernel
theorem dX12_safe_87 : decode cX12_safe 87 = .ok (.iload_n 2, 1) := by decide +kernel
theorem dX12_safe_88 : decode cX12_safe 88 = .ok (.ireturn, 1) := by decide +kernel
theorem dX12_leaves_0 : decode cX12_leaves 0 = .ok (.iconst 0, 1) := by decide +kernel
theorem dX12_leaves_1 : decode cX12_leaves 1 = .ok (.istore 4, 2) := by decide +kernel
theorem dX12_leaves_3 : decode cX12_leaves 3 = .ok (.iload 4, 2) := by decide +kernel
theorem dX12_leaves_5 : decode cX12_leaves 5 = .ok (.bipush 24, 2) := by decide +kernel
theorem dX12_leaves_7 : decode cX12_leaves 7 = .ok (.if_icmp .ge 17, 3) := by decide +kernel
theorem dX12_leaves_10 : decode cX12_leaves 10 = .ok (.aload_n 0, 1) := by decide +kernel
theorem dX12_leaves_11 : decode cX12_leaves 11 = .ok (.getfield 36, 3) := by decide +kernel
theorem dX12_leaves_14 : decode cX12_leaves 14 = .ok (.iload 4, 2) := by decide +kernel
theorem dX12_leaves_16 : decode cX12_leaves 16 = .ok (.iconst 0, 1) := by decide +kernel
theorem dX12_leaves_17 : decode cX12_leaves 17 = .ok (.iastore, 1) := by decide +kernel
theorem dX12_leaves_18 : decode cX12_leaves 18 = .ok (.iinc 4 1, 3) := by decide +kernel
theorem dX12_leaves_21 : decode cX12_leaves 21 = .ok (.goto (-18), 3) := by decide +kernel
theorem dX12_leaves_24 : decode cX12_leaves 24 = .ok (.aload_n 0, 1) := by decide +kernel
theorem dX12_leaves_25 : decode cX12_leaves 25 = .ok (.aload_n 0, 1) := by decide +kernel
theorem dX12_leaves_26 : decode cX12_leaves 26 = .ok (.getfield 153, 3) := by decide +kernel
theorem dX12_leaves_29 : decode cX12_leaves 29 = .ok (.putfield 210, 3) := by decide +kernel
theorem dX12_leaves_32 : decode cX12_leaves 32 = .ok (.iconst 1, 1) := by decide +kernel
theorem dX12_leaves_33 : decode cX12_leaves 33 = .ok (.istore 4, 2) := by decide +kernel
theorem dX12_leaves_35 : decode cX12_leaves 35 = .ok (.iconst 0, 1) := by decide +kernel
theorem dX12_leaves_36 : decode cX12_leaves 36 = .ok (.istore 5, 2) := by decide +kernel
theorem dX12_leaves_38 : decode cX12_leaves 38 = .ok (.iload 5, 2) := by decide +kernel
theorem dX12_leaves_40 : decode cX12_leaves 40 = .ok (.aload_n 0, 1) := by decide +kernel
theorem dX12_leaves_41 : decode cX12_leaves 41 = .ok (.getfield 93, 3) := by decide +kernel
theorem dX12_leaves_44 : decode cX12_leaves 44 = .ok (.if_icmp .ge 38, 3) := by decide +kernel
theorem dX12_leaves_47 : decode cX12_leaves 47 = .ok (.iload 4, 2) := by decide +kernel
theorem dX12_leaves_49 : decode cX12_leaves 49 = .ok (.iload_n 3, 1) := by decide +kernel
theorem dX12_leaves_50 : decode cX12_leaves 50 = .ok (.iload 5, 2) := by decide +kernel
theorem dX12_leaves_52 : decode cX12_leaves 52 = .ok (.invokestatic 219, 3) := by decide +kernel
theorem dX12_leaves_55 : decode cX12_leaves 55 = .ok (.ifCond .eq 13, 3) := by decide +kernel
theorem dX12_leaves_58 : decode cX12_leaves 58 = .ok (.aload_n 0, 1) := by decide +kernel
theorem dX12_leaves_59 : decode cX12_leaves 59 = .ok (.iload 5, 2) := by decide +kernel
theorem dX12_leaves_61 : decode cX12_leaves 61 = .ok (.iload_n 2, 1) := by decide +kernel
theorem dX12_leaves_62 : decode cX12_leaves 62 = .ok (.invokevirtual 249, 3) := by decide +kernel
theorem dX12_leaves_65 : decode cX12_leaves 65 = .ok (.ifCond .eq 7, 3) := by decide +kernel
theorem dX12_leaves_68 : decode cX12_leaves 68 = .ok (.iconst 1, 1) := by decide +kernel
theorem dX12_leaves_69 : decode cX12_leaves 69 = .ok (.goto 4, 3) := by decide +kernel
theorem dX12_leaves_72 : decode cX12_leaves 72 = .ok (.iconst 0, 1) := by decide +kernel
theorem dX12_leaves_73 : decode cX12_leaves 73 = .ok (.iand, 1) := by decide +kernel
theorem dX12_leaves_74 : decode cX12_leaves 74 = .ok (.istore 4, 2) := by decide +kernel
theorem dX12_leaves_76 : decode cX12_leaves 76 = .ok (.iinc 5 1, 3) := by decide +kernel
theorem dX12_leaves_79 : decode cX12_leaves 79 = .ok (.goto (-41), 3) := by decide +kernel
theorem dX12_leaves_82 : decode cX12_leaves 82 = .ok (.iconst 0, 1) := by decide +kernel
theorem dX12_leaves_83 : decode cX12_leaves 83 = .ok (.istore 5, 2) := by decide +kernel
theorem dX12_leaves_85 : decode cX12_leaves 85 = .ok (.iload 5, 2) := by decide +kernel
theorem dX12_leaves_87 : decode cX12_leaves 87 = .ok (.bipush 8, 2) := by decide +kernel
theorem dX12_leaves_89 : decode cX12_leaves 89 = .ok (.if_icmp .ge 59, 3) := by decide +kernel
theorem dX12_leaves_92 : decode cX12_leaves 92 = .ok (.iload 5, 2) := by decide +kernel
theorem dX12_leaves_94 : decode cX12_leaves 94 = .ok (.aload_n 0, 1) := by decide +kernel
theorem dX12_leaves_95 : decode cX12_leaves 95 = .ok (.getfield 71, 3) := by decide +kernel
theorem dX12_leaves_98 : decode cX12_leaves 98 = .ok (.iload_n 1, 1) := by decide +kernel
theorem dX12_leaves_99 : decode cX12_leaves 99 = .ok (.iaload, 1) := by decide +kernel
theorem dX12_leaves_100 : decode cX12_leaves 100 = .ok (.if_icmp .ge 48, 3) := by decide +kernel
theorem dX12_leaves_103 : decode cX12_leaves 103 = .ok (.iload 4, 2) := by decide +kernel
theorem dX12_leaves_105 : decode cX12_leaves 105 = .ok (.aload_n 0, 1) := by decide +kernel
theorem dX12_leaves_106 : decode cX12_leaves 106 = .ok (.getfield 74, 3) := by decide +kernel
theorem dX12_leaves_109 : decode cX12_leaves 109 = .ok (.bipush 60, 2) := by decide +kernel
theorem dX12_leaves_111 : decode cX12_leaves 111 = .ok (.iload_n 1, 1) := by decide +kernel
theorem dX12_leaves_112 : decode cX12_leaves 112 = .ok (.imul, 1) := by decide +kernel
theorem dX12_leaves_113 : decode cX12_leaves 113 = .ok (.iload 5, 2) := by decide +kernel
theorem dX12_leaves_115 : decode cX12_leaves 115 = .ok (.iadd, 1) := by decide +kernel
theorem dX12_leaves_116 : decode cX12_leaves 116 = .ok (.laload, 1) := by decide +kernel
theorem dX12_leaves_117 : decode cX12_leaves 117 = .ok (.aload_n 0, 1) := by decide +kernel
theorem dX12_leaves_118 : decode cX12_leaves 118 = .ok (.getfield 36, 3) := by decide +kernel
theorem dX12_leaves_121 : decode cX12_leaves 121 = .ok (.bipush 8, 2) := by decide +kernel
theorem dX12_leaves_123 : decode cX12_leaves 123 = .ok (.iload_n 2, 1) := by decide +kernel
theorem dX12_leaves_124 : decode cX12_leaves 124 = .ok (.imul, 1) := by decide +kernel
theorem dX12_leaves_125 : decode cX12_leaves 125 = .ok (.iload 5, 2) := by decide +kernel
theorem dX12_leaves_127 : decode cX12_leaves 127 = .ok (.iadd, 1) := by decide +kernel
theorem dX12_leaves_128 : decode cX12_leaves 128 = .ok (.iaload, 1) := by decide +kernel
theorem dX12_leaves_129 : decode cX12_leaves 129 = .ok (.i2l, 1) := by decide +kernel
theorem dX12_leaves_130 : decode cX12_leaves 130 = .ok (.lcmp, 1) := by decide +kernel
theorem dX12_leaves_131 : decode cX12_leaves 131 = .ok (.ifCond .ne 7, 3) := by decide +kernel
theorem dX12_leaves_134 : decode cX12_leaves 134 = .ok (.iconst 1, 1) := by decide +kernel
theorem dX12_leaves_135 : decode cX12_leaves 135 = .ok (.goto 4, 3) := by decide +kernel
theorem dX12_leaves_138 : decode cX12_leaves 138 = .ok (.iconst 0, 1) := by decide +kernel
theorem dX12_leaves_139 : decode cX12_leaves 139 = .ok (.iand, 1) := by decide +kernel
theorem dX12_leaves_140 : decode cX12_leaves 140 = .ok (.istore 4, 2) := by decide +kernel
theorem dX12_leaves_142 : decode cX12_leaves 142 = .ok (.iinc 5 1, 3) := by decide +kernel
theorem dX12_leaves_145 : decode cX12_leaves 145 = .ok (.goto (-60), 3) := by decide +kernel
theorem dX12_leaves_148 : decode cX12_leaves 148 = .ok (.iload 4, 2) := by decide +kernel
theorem dX12_leaves_150 : decode cX12_leaves 150 = .ok (.ireturn, 1) := by decide +kernel
theorem dX12_who_0 : decode cX12_who 0 = .ok (.aload_n 0, 1) := by decide +kernel
theorem dX12_who_1 : decode cX12_who 1 = .ok (.iload_n 1, 1) := by decide +kernel
theorem dX12_who_2 : decode cX12_who 2 = .ok (.invokevirtual 252, 3) := by decide +kernel
theorem dX12_who_5 : decode cX12_who 5 = .ok (.iconst (-1), 1) := by decide +kernel
theorem dX12_who_6 : decode cX12_who 6 = .ok (.if_icmp .eq 23, 3) := by decide +kernel
theorem dX12_who_9 : decode cX12_who 9 = .ok (.iload_n 2, 1) := by decide +kernel
theorem dX12_who_10 : decode cX12_who 10 = .ok (.i2l, 1) := by decide +kernel
theorem dX12_who_11 : decode cX12_who 11 = .ok (.invokestatic 255, 3) := by decide +kernel
theorem dX12_who_14 : decode cX12_who 14 = .ok (.ifCond .eq 15, 3) := by decide +kernel
theorem dX12_who_17 : decode cX12_who 17 = .ok (.iload_n 3, 1) := by decide +kernel
theorem dX12_who_18 : decode cX12_who 18 = .ok (.i2l, 1) := by decide +kernel
theorem dX12_who_19 : decode cX12_who 19 = .ok (.lconst 0, 1) := by decide +kernel
theorem dX12_who_20 : decode cX12_who 20 = .ok (.ldc2_w 100, 3) := by decide +kernel
theorem dX12_who_23 : decode cX12_who 23 = .ok (.invokestatic 96, 3) := by decide +kernel
theorem dX12_who_26 : decode cX12_who 26 = .ok (.ifCond .ne 5, 3) := by decide +kernel
theorem dX12_who_29 : decode cX12_who 29 = .ok (.iconst (-1), 1) := by decide +kernel
theorem dX12_who_30 : decode cX12_who 30 = .ok (.ireturn, 1) := by decide +kernel
theorem dX12_who_31 : decode cX12_who 31 = .ok (.aload_n 0, 1) := by decide +kernel
theorem dX12_who_32 : decode cX12_who 32 = .ok (.iload_n 1, 1) := by decide +kernel
theorem dX12_who_33 : decode cX12_who 33 = .ok (.invokevirtual 252, 3) := by decide +kernel
theorem dX12_who_36 : decode cX12_who 36 = .ok (.ifCond .ge 9, 3) := by decide +kernel
theorem dX12_who_39 : decode cX12_who 39 = .ok (.aload_n 0, 1) := by decide +kernel
theorem dX12_who_40 : decode cX12_who 40 = .ok (.iload_n 1, 1) := by decide +kernel
theorem dX12_who_41 : decode cX12_who 41 = .ok (.invokevirtual 252, 3) := by decide +kernel
theorem dX12_who_44 : decode cX12_who 44 = .ok (.ireturn, 1) := by decide +kernel
theorem dX12_who_45 : decode cX12_who 45 = .ok (.iconst 0, 1) := by decide +kernel
theorem dX12_who_46 : decode cX12_who 46 = .ok (.istore 4, 2) := by decide +kernel
theorem dX12_who_48 : decode cX12_who 48 = .ok (.bipush (-2), 2) := by decide +kernel
theorem dX12_who_50 : decode cX12_who 50 = .ok (.istore 5, 2) := by decide +kernel
theorem dX12_who_52 : decode cX12_who 52 = .ok (.iconst 1, 1) := by decide +kernel
theorem dX12_who_53 : decode cX12_who 53 = .ok (.aload_n 0, 1) := by decide +kernel
theorem dX12_who_54 : decode cX12_who 54 = .ok (.getfield 93, 3) := by decide +kernel
theorem dX12_who_57 : decode cX12_who 57 = .ok (.ishl, 1) := by decide +kernel
theorem dX12_who_58 : decode cX12_who 58 = .ok (.iconst 1, 1) := by decide +kernel
theorem dX12_who_59 : decode cX12_who 59 = .ok (.isub, 1) := by decide +kernel
theorem dX12_who_60 : decode cX12_who 60 = .ok (.istore 6, 2) := by decide +kernel
theorem dX12_who_62 : decode cX12_who 62 = .ok (.iconst 0, 1) := by decide +kernel
theorem dX12_who_63 : decode cX12_who 63 = .ok (.istore 7, 2) := by decide +kernel
theorem dX12_who_65 : decode cX12_who 65 = .ok (.iload 7, 2) := by decide +kernel
theorem dX12_who_67 : decode cX12_who 67 = .ok (.iconst 1, 1) := by decide +kernel
theorem dX12_who_68 : decode cX12_who 68 = .ok (.aload_n 0, 1) := by decide +kernel
theorem dX12_who_69 : decode cX12_who 69 = .ok (.getfield 93, 3) := by decide +kernel
theorem dX12_who_72 : decode cX12_who 72 = .ok (.ishl, 1) := by decide +kernel
theorem dX12_who_73 : decode cX12_who 73 = .ok (.if_icmp .ge 44, 3) := by decide +kernel
theorem dX12_who_76 : decode cX12_who 76 = .ok (.aload_n 0, 1) := by decide +kernel
theorem dX12_who_77 : decode cX12_who 77 = .ok (.iload_n 1, 1) := by decide +kernel
theorem dX12_who_78 : decode cX12_who 78 = .ok (.iload_n 2, 1) := by decide +kernel
theorem dX12_who_79 : decode cX12_who 79 = .ok (.iload 7, 2) := by decide +kernel
theorem dX12_who_81 : decode cX12_who 81 = .ok (.invokevirtual 336, 3) := by decide +kernel
theorem dX12_who_84 : decode cX12_who 84 = .ok (.ifCond .eq 27, 3) := by decide +kernel
theorem dX12_who_87 : decode cX12_who 87 = .ok (.iload 4, 2) := by decide +kernel
theorem dX12_who_89 : decode cX12_who 89 = .ok (.ifCond .ne 8, 3) := by decide +kernel
theorem dX12_who_92 : decode cX12_who 92 = .ok (.iload 7, 2) := by decide +kernel
theorem dX12_who_94 : decode cX12_who 94 = .ok (.goto 5, 3) := by decide +kernel
theorem dX12_who_97 : decode cX12_who 97 = .ok (.iload 5, 2) := by decide +kernel
theorem dX12_who_99 : decode cX12_who 99 = .ok (.istore 5, 2) := by decide +kernel
theorem dX12_who_101 : decode cX12_who 101 = .ok (.iinc 4 1, 3) := by decide +kernel
theorem dX12_who_104 : decode cX12_who 104 = .ok (.iload 6, 2) := by decide +kernel
theorem dX12_who_106 : decode cX12_who 106 = .ok (.iload 7, 2) := by decide +kernel
theorem dX12_who_108 : decode cX12_who 108 = .ok (.iand, 1) := by decide +kernel
theorem dX12_who_109 : decode cX12_who 109 = .ok (.istore 6, 2) := by decide +kernel
theorem dX12_who_111 : decode cX12_who 111 = .ok (.iinc 7 1, 3) := by decide +kernel
theorem dX12_who_114 : decode cX12_who 114 = .ok (.goto (-49), 3) := by decide +kernel
theorem dX12_who_117 : decode cX12_who 117 = .ok (.iload_n 3, 1) := by decide +kernel
theorem dX12_who_118 : decode cX12_who 118 = .ok (.ifCond .ne 8, 3) := by decide +kernel
theorem dX12_who_121 : decode cX12_who 121 = .ok (.iload 4, 2) := by decide +kernel
theorem dX12_who_123 : decode cX12_who 123 = .ok (.goto 24, 3) := by decide +kernel
theorem dX12_who_126 : decode cX12_who 126 = .ok (.iload_n 3, 1) := by decide +kernel
theorem dX12_who_127 : decode cX12_who 127 = .ok (.iconst 1, 1) := by decide +kernel
theorem dX12_who_128 : decode cX12_who 128 = .ok (.if_icmp .ne 8, 3) := by decide +kernel
theorem dX12_who_131 : decode cX12_who 131 = .ok (.iload 5, 2) := by decide +kernel
theorem dX12_who_133 : decode cX12_who 133 = .ok (.goto 14, 3) := by decide +kernel
theorem dX12_who_136 : decode cX12_who 136 = .ok (.iload 4, 2) := by decide +kernel
theorem dX12_who_138 : decode cX12_who 138 = .ok (.ifCond .ne 7, 3) := by decide +kernel
theorem dX12_who_141 : decode cX12_who 141 = .ok (.iconst 0, 1) := by decide +kernel
theorem dX12_who_142 : decode cX12_who 142 = .ok (.goto 5, 3) := by decide +kernel
theorem dX12_who_145 : decode cX12_who 145 = .ok (.iload 6, 2) := by decide +kernel
theorem dX12_who_147 : decode cX12_who 147 = .ok (.ireturn, 1) := by decide +kernel
theorem dX12_isSo_0 : decode cX12_isSo 0 = .ok (.bipush 60, 2) := by decide +kernel
theorem dX12_isSo_2 : decode cX12_isSo 2 = .ok (.iload_n 1, 1) := by decide +kernel
theorem dX12_isSo_3 : decode cX12_isSo 3 = .ok (.imul, 1) := by decide +kernel
theorem dX12_isSo_4 : decode cX12_isSo 4 = .ok (.iconst 3, 1) := by decide +kernel
theorem dX12_isSo_5 : decode cX12_isSo 5 = .ok (.iload_n 2, 1) := by decide +kernel
theorem dX12_isSo_6 : decode cX12_isSo 6 = .ok (.imul, 1) := by decide +kernel
theorem dX12_isSo_7 : decode cX12_isSo 7 = .ok (.iadd, 1) := by decide +kernel
theorem dX12_isSo_8 : decode cX12_isSo 8 = .ok (.istore_n 3, 1) := by decide +kernel
theorem dX12_isSo_9 : decode cX12_isSo 9 = .ok (.iconst 3, 1) := by decide +kernel
theorem dX12_isSo_10 : decode cX12_isSo 10 = .ok (.iload_n 2, 1) := by decide +kernel
theorem dX12_isSo_11 : decode cX12_isSo 11 = .ok (.imul, 1) := by decide +kernel
theorem dX12_isSo_12 : decode cX12_isSo 12 = .ok (.iconst 2, 1) := by decide +kernel
theorem dX12_isSo_13 : decode cX12_isSo 13 = .ok (.iadd, 1) := by decide +kernel
theorem dX12_isSo_14 : decode cX12_isSo 14 = .ok (.aload_n 0, 1) := by decide +kernel
theorem dX12_isSo_15 : decode cX12_isSo 15 = .ok (.getfield 71, 3) := by decide +kernel
theorem dX12_isSo_18 : decode cX12_isSo 18 = .ok (.iload_n 1, 1) := by decide +kernel
theorem dX12_isSo_19 : decode cX12_isSo 19 = .ok (.iaload, 1) := by decide +kernel
theorem dX12_isSo_20 : decode cX12_isSo 20 = .ok (.if_icmp .ge 46, 3) := by decide +kernel
theorem dX12_isSo_23 : decode cX12_isSo 23 = .ok (.aload_n 0, 1) := by decide +kernel
theorem dX12_isSo_24 : decode cX12_isSo 24 = .ok (.aload_n 0, 1) := by decide +kernel
theorem dX12_isSo_25 : decode cX12_isSo 25 = .ok (.getfield 74, 3) := by decide +kernel
theorem dX12_isSo_28 : decode cX12_isSo 28 = .ok (.iload_n 3, 1) := by decide +kernel
theorem dX12_isSo_29 : decode cX12_isSo 29 = .ok (.laload, 1) := by decide +kernel
theorem dX12_isSo_30 : decode cX12_isSo 30 = .ok (.invokevirtual 125, 3) := by decide +kernel
theorem dX12_isSo_33 : decode cX12_isSo 33 = .ok (.ifCond .eq 33, 3) := by decide +kernel
theorem dX12_isSo_36 : decode cX12_isSo 36 = .ok (.aload_n 0, 1) := by decide +kernel
theorem dX12_isSo_37 : decode cX12_isSo 37 = .ok (.getfield 74, 3) := by decide +kernel
theorem dX12_isSo_40 : decode cX12_isSo 40 = .ok (.iload_n 3, 1) := by decide +kernel
theorem dX12_isSo_41 : decode cX12_isSo 41 = .ok (.iconst 1, 1) := by decide +kernel
theorem dX12_isSo_42 : decode cX12_isSo 42 = .ok (.iadd, 1) := by decide +kernel
theorem dX12_isSo_43 : decode cX12_isSo 43 = .ok (.laload, 1) := by decide +kernel
theorem dX12_isSo_44 : decode cX12_isSo 44 = .ok (.invokestatic 255, 3) := by decide +kernel
theorem dX12_isSo_47 : decode cX12_isSo 47 = .ok (.ifCond .eq 19, 3) := by decide +kernel
theorem dX12_isSo_50 : decode cX12_isSo 50 = .ok (.aload_n 0, 1) := by decide +kernel
theorem dX12_isSo_51 : decode cX12_isSo 51 = .ok (.getfield 74, 3) := by decide +kernel
theorem dX12_isSo_54 : decode cX12_isSo 54 = .ok (.iload_n 3, 1) := by decide +kernel
theorem dX12_isSo_55 : decode cX12_isSo 55 = .ok (.iconst 2, 1) := by decide +kernel
theorem dX12_isSo_56 : decode cX12_isSo 56 = .ok (.iadd, 1) := by decide +kernel
theorem dX12_isSo_57 : decode cX12_isSo 57 = .ok (.laload, 1) := by decide +kernel
theorem dX12_isSo_58 : decode cX12_isSo 58 = .ok (.lconst 0, 1) := by decide +kernel
theorem dX12_isSo_59 : decode cX12_isSo 59 = .ok (.lconst 1, 1) := by decide +kernel
theorem dX12_isSo_60 : decode cX12_isSo 60 = .ok (.invokestatic 96, 3) := by decide +kernel
theorem dX12_isSo_63 : decode cX12_isSo 63 = .ok (.ifCond .ne 5, 3) := by decide +kernel
theorem dX12_isSo_66 : decode cX12_isSo 66 = .ok (.iconst 0, 1) := by decide +kernel
theorem dX12_isSo_67 : decode cX12_isSo 67 = .ok (.ireturn, 1) := by decide +kernel
theorem dX12_isSo_68 : decode cX12_isSo 68 = .ok (.aload_n 0, 1) := by decide +kernel
theorem dX12_isSo_69 : decode cX12_isSo 69 = .ok (.aload_n 0, 1) := by decide +kernel
theorem dX12_isSo_70 : decode cX12_isSo 70 = .ok (.getfield 74, 3) := by decide +kernel
theorem dX12_isSo_73 : decode cX12_isSo 73 = .ok (.iload_n 3, 1) := by decide +kernel
theorem dX12_isSo_74 : decode cX12_isSo 74 = .ok (.laload, 1) := by decide +kernel
theorem dX12_isSo_75 : decode cX12_isSo 75 = .ok (.l2i, 1) := by decide +kernel
theorem dX12_isSo_76 : decode cX12_isSo 76 = .ok (.aload_n 0, 1) := by decide +kernel
theorem dX12_isSo_77 : decode cX12_isSo 77 = .ok (.getfield 74, 3) := by decide +kernel
theorem dX12_isSo_80 : decode cX12_isSo 80 = .ok (.iload_n 3, 1) := by decide +kernel
theorem dX12_isSo_81 : decode cX12_isSo 81 = .ok (.iconst 1, 1) := by decide +kernel
theorem dX12_isSo_82 : decode cX12_isSo 82 = .ok (.iadd, 1) := by decide +kernel
theorem dX12_isSo_83 : decode cX12_isSo 83 = .ok (.laload, 1) := by decide +kernel
theorem dX12_isSo_84 : decode cX12_isSo 84 = .ok (.l2i, 1) := by decide +kernel
theorem dX12_isSo_85 : decode cX12_isSo 85 = .ok (.invokevirtual 249, 3) := by decide +kernel
theorem dX12_isSo_88 : decode cX12_isSo 88 = .ok (.aload_n 0, 1) := by decide +kernel
theorem dX12_isSo_89 : decode cX12_isSo 89 = .ok (.getfield 74, 3) := by decide +kernel
theorem dX12_isSo_92 : decode cX12_isSo 92 = .ok (.iload_n 3, 1) := by decide +kernel
theorem dX12_isSo_93 : decode cX12_isSo 93 = .ok (.iconst 2, 1) := by decide +kernel
theorem dX12_isSo_94 : decode cX12_isSo 94 = .ok (.iadd, 1) := by decide +kernel
theorem dX12_isSo_95 : decode cX12_isSo 95 = .ok (.laload, 1) := by decide +kernel
theorem dX12_isSo_96 : decode cX12_isSo 96 = .ok (.lconst 1, 1) := by decide +kernel
theorem dX12_isSo_97 : decode cX12_isSo 97 = .ok (.lcmp, 1) := by decide +kernel
theorem dX12_isSo_98 : decode cX12_isSo 98 = .ok (.ifCond .ne 7, 3) := by decide +kernel
theorem dX12_isSo_101 : decode cX12_isSo 101 = .ok (.iconst 1, 1) := by decide +kernel
theorem dX12_isSo_102 : decode cX12_isSo 102 = .ok (.goto 4, 3) := by decide +kernel
theorem dX12_isSo_105 : decode cX12_isSo 105 = .ok (.iconst 0, 1) := by decide +kernel
theorem dX12_isSo_106 : decode cX12_isSo 106 = .ok (.if_icmp .ne 7, 3) := by decide +kernel
theorem dX12_isSo_109 : decode cX12_isSo 109 = .ok (.iconst 1, 1) := by decide +kernel
theorem dX12_isSo_110 : decode cX12_isSo 110 = .ok (.goto 4, 3) := by decide +kernel
theorem dX12_isSo_113 : decode cX12_isSo 113 = .ok (.iconst 0, 1) := by decide +kernel
theorem dX12_isSo_114 : decode cX12_isSo 114 = .ok (.ireturn, 1) := by decide +kernel
theorem dX12_judge_0 : decode cX12_judge 0 = .ok (.aload_n 0, 1) := by decide +kernel
theorem dX12_judge_1 : decode cX12_judge 1 = .ok (.iload_n 1, 1) := by decide +kernel
theorem dX12_judge_2 : decode cX12_judge 2 = .ok (.invokevirtual 252, 3) := by decide +kernel
theorem dX12_judge_5 : decode cX12_judge 5 = .ok (.ifCond .ge 9, 3) := by decide +kernel
theorem dX12_judge_8 : decode cX12_judge 8 = .ok (.aload_n 0, 1) := by decide +kernel
theorem dX12_judge_9 : decode cX12_judge 9 = .ok (.iload_n 1, 1) := by decide +kernel
theorem dX12_judge_10 : decode cX12_judge 10 = .ok (.invokevirtual 252, 3) := by decide +kernel
theorem dX12_judge_13 : decode cX12_judge 13 = .ok (.ireturn, 1) := by decide +kernel
theorem dX12_judge_14 : decode cX12_judge 14 = .ok (.aload_n 0, 1) := by decide +kernel
theorem dX12_judge_15 : decode cX12_judge 15 = .ok (.invokevirtual 146, 3) := by decide +kernel
theorem dX12_judge_18 : decode cX12_judge 18 = .ok (.iconst 0, 1) := by decide +kernel
theorem dX12_judge_19 : decode cX12_judge 19 = .ok (.istore_n 2, 1) := by decide +kernel
theorem dX12_judge_20 : decode cX12_judge 20 = .ok (.iconst 3, 1) := by decide +kernel
theorem dX12_judge_21 : decode cX12_judge 21 = .ok (.iload_n 2, 1) := by decide +kernel
theorem dX12_judge_22 : decode cX12_judge 22 = .ok (.imul, 1) := by decide +kernel
theorem dX12_judge_23 : decode cX12_judge 23 = .ok (.aload_n 0, 1) := by decide +kernel
theorem dX12_judge_24 : decode cX12_judge 24 = .ok (.getfield 71, 3) := by decide +kernel
theorem dX12_judge_27 : decode cX12_judge 27 = .ok (.iload_n 1, 1) := by decide +kernel
theorem dX12_judge_28 : decode cX12_judge 28 = .ok (.iaload, 1) := by decide +kernel
theorem dX12_judge_29 : decode cX12_judge 29 = .ok (.if_icmp .ge 20, 3) := by decide +kernel
theorem dX12_judge_32 : decode cX12_judge 32 = .ok (.aload_n 0, 1) := by decide +kernel
theorem dX12_judge_33 : decode cX12_judge 33 = .ok (.iload_n 1, 1) := by decide +kernel
theorem dX12_judge_34 : decode cX12_judge 34 = .ok (.iload_n 2, 1) := by decide +kernel
theorem dX12_judge_35 : decode cX12_judge 35 = .ok (.invokevirtual 340, 3) := by decide +kernel
theorem dX12_judge_38 : decode cX12_judge 38 = .ok (.ifCond .ne 5, 3) := by decide +kernel
theorem dX12_judge_41 : decode cX12_judge 41 = .ok (.iload_n 2, 1) := by decide +kernel
theorem dX12_judge_42 : decode cX12_judge 42 = .ok (.ireturn, 1) := by decide +kernel
theorem dX12_judge_43 : decode cX12_judge 43 = .ok (.iinc 2 1, 3) := by decide +kernel
theorem dX12_judge_46 : decode cX12_judge 46 = .ok (.goto (-26), 3) := by decide +kernel
theorem dX12_judge_49 : decode cX12_judge 49 = .ok (.bipush (-2), 2) := by decide +kernel
theorem dX12_judge_51 : decode cX12_judge 51 = .ok (.ireturn, 1) := by decide +kernel
theorem dX12_drawn_0 : decode cX12_drawn 0 = .ok (.iload_n 2, 1) := by decide +kernel
theorem dX12_drawn_1 : decode cX12_drawn 1 = .ok (.ifCond .lt 39, 3) := by decide +kernel
theorem dX12_drawn_4 : decode cX12_drawn 4 = .ok (.iload_n 2, 1) := by decide +kernel
theorem dX12_drawn_5 : decode cX12_drawn 5 = .ok (.bipush 10, 2) := by decide +kernel
theorem dX12_drawn_7 : decode cX12_drawn 7 = .ok (.idiv, 1) := by decide +kernel
theorem dX12_drawn_8 : decode cX12_drawn 8 = .ok (.i2l, 1) := by decide +kernel
theorem dX12_drawn_9 : decode cX12_drawn 9 = .ok (.lconst 1, 1) := by decide +kernel
theorem dX12_drawn_10 : decode cX12_drawn 10 = .ok (.ldc2_w 343, 3) := by decide +kernel
theorem dX12_drawn_13 : decode cX12_drawn 13 = .ok (.invokestatic 96, 3) := by decide +kernel
theorem dX12_drawn_16 : decode cX12_drawn 16 = .ok (.ifCond .eq 24, 3) := by decide +kernel
theorem dX12_drawn_19 : decode cX12_drawn 19 = .ok (.iload_n 2, 1) := by decide +kernel
theorem dX12_drawn_20 : decode cX12_drawn 20 = .ok (.bipush 10, 2) := by decide +kernel
theorem dX12_drawn_22 : decode cX12_drawn 22 = .ok (.irem, 1) := by decide +kernel
theorem dX12_drawn_23 : decode cX12_drawn 23 = .ok (.i2l, 1) := by decide +kernel
theorem dX12_drawn_24 : decode cX12_drawn 24 = .ok (.invokestatic 255, 3) := by decide +kernel
theorem dX12_drawn_27 : decode cX12_drawn 27 = .ok (.ifCond .eq 13, 3) := by decide +kernel
theorem dX12_drawn_30 : decode cX12_drawn 30 = .ok (.iload_n 3, 1) := by decide +kernel
theorem dX12_drawn_31 : decode cX12_drawn 31 = .ok (.i2l, 1) := by decide +kernel
theorem dX12_drawn_32 : decode cX12_drawn 32 = .ok (.lconst 0, 1) := by decide +kernel
theorem dX12_drawn_33 : decode cX12_drawn 33 = .ok (.lconst 1, 1) := by decide +kernel
theorem dX12_drawn_34 : decode cX12_drawn 34 = .ok (.invokestatic 96, 3) := by decide +kernel
theorem dX12_drawn_37 : decode cX12_drawn 37 = .ok (.ifCond .ne 5, 3) := by decide +kernel
theorem dX12_drawn_40 : decode cX12_drawn 40 = .ok (.iconst (-1), 1) := by decide +kernel
theorem dX12_drawn_41 : decode cX12_drawn 41 = .ok (.ireturn, 1) := by decide +kernel
theorem dX12_drawn_42 : decode cX12_drawn 42 = .ok (.iload_n 2, 1) := by decide +kernel
theorem dX12_drawn_43 : decode cX12_drawn 43 = .ok (.bipush 10, 2) := by decide +kernel
theorem dX12_drawn_45 : decode cX12_drawn 45 = .ok (.irem, 1) := by decide +kernel
theorem dX12_drawn_46 : decode cX12_drawn 46 = .ok (.istore 4, 2) := by decide +kernel
theorem dX12_drawn_48 : decode cX12_drawn 48 = .ok (.iload_n 1, 1) := by decide +kernel
theorem dX12_drawn_49 : decode cX12_drawn 49 = .ok (.istore 5, 2) := by decide +kernel
theorem dX12_drawn_51 : decode cX12_drawn 51 = .ok (.iconst 0, 1) := by decide +kernel
theorem dX12_drawn_52 : decode cX12_drawn 52 = .ok (.istore 6, 2) := by decide +kernel
theorem dX12_drawn_54 : decode cX12_drawn 54 = .ok (.iconst 0, 1) := by decide +kernel
theorem dX12_drawn_55 : decode cX12_drawn 55 = .ok (.istore 7, 2) := by decide +kernel
theorem dX12_drawn_57 : decode cX12_drawn 57 = .ok (.iconst 0, 1) := by decide +kernel
theorem dX12_drawn_58 : decode cX12_drawn 58 = .ok (.istore 8, 2) := by decide +kernel
theorem dX12_drawn_60 : decode cX12_drawn 60 = .ok (.iload 8, 2) := by decide +kernel
theorem dX12_drawn_62 : decode cX12_drawn 62 = .ok (.iload_n 2, 1) := by decide +kernel
theorem dX12_drawn_63 : decode cX12_drawn 63 = .ok (.bipush 10, 2) := by decide +kernel
theorem dX12_drawn_65 : decode cX12_drawn 65 = .ok (.idiv, 1) := by decide +kernel
theorem dX12_drawn_66 : decode cX12_drawn 66 = .ok (.if_icmp .ge 164, 3) := by decide +kernel
theorem dX12_drawn_69 : decode cX12_drawn 69 = .ok (.aload_n 0, 1) := by decide +kernel
theorem dX12_drawn_70 : decode cX12_drawn 70 = .ok (.iconst 0, 1) := by decide +kernel
theorem dX12_drawn_71 : decode cX12_drawn 71 = .ok (.putfield 216, 3) := by decide +kernel
theorem dX12_drawn_74 : decode cX12_drawn 74 = .ok (.aload_n 0, 1) := by decide +kernel
theorem dX12_drawn_75 : decode cX12_drawn 75 = .ok (.iload 4, 2) := by decide +kernel
theorem dX12_drawn_77 : decode cX12_drawn 77 = .ok (.putfield 213, 3) := by decide +kernel
theorem dX12_drawn_80 : decode cX12_drawn 80 = .ok (.iconst 0, 1) := by decide +kernel
theorem dX12_drawn_81 : decode cX12_drawn 81 = .ok (.istore 9, 2) := by decide +kernel
theorem dX12_drawn_83 : decode cX12_drawn 83 = .ok (.iload 9, 2) := by decide +kernel
theorem dX12_drawn_85 : decode cX12_drawn 85 = .ok (.bipush 8, 2) := by decide +kernel
theorem dX12_drawn_87 : decode cX12_drawn 87 = .ok (.if_icmp .ge 65, 3) := by decide +kernel
theorem dX12_drawn_90 : decode cX12_drawn 90 = .ok (.iload 5, 2) := by decide +kernel
theorem dX12_drawn_92 : decode cX12_drawn 92 = .ok (.ldc_w 345, 3) := by decide +kernel
theorem dX12_drawn_95 : decode cX12_drawn 95 = .ok (.imul, 1) := by decide +kernel
theorem dX12_drawn_96 : decode cX12_drawn 96 = .ok (.sipush 12345, 3) := by decide +kernel
theorem dX12_drawn_99 : decode cX12_drawn 99 = .ok (.iadd, 1) := by decide +kernel
theorem dX12_drawn_100 : decode cX12_drawn 100 = .ok (.istore 5, 2) := by decide +kernel
theorem dX12_drawn_102 : decode cX12_drawn 102 = .ok (.aload_n 0, 1) := by decide +kernel
theorem dX12_drawn_103 : decode cX12_drawn 103 = .ok (.dup, 1) := by decide +kernel
theorem dX12_drawn_104 : decode cX12_drawn 104 = .ok (.getfield 216, 3) := by decide +kernel
theorem dX12_drawn_107 : decode cX12_drawn 107 = .ok (.iload 5, 2) := by decide +kernel
theorem dX12_drawn_109 : decode cX12_drawn 109 = .ok (.bipush 8, 2) := by decide +kernel
theorem dX12_drawn_111 : decode cX12_drawn 111 = .ok (.iushr, 1) := by decide +kernel
theorem dX12_drawn_112 : decode cX12_drawn 112 = .ok (.bipush 12, 2) := by decide +kernel
theorem dX12_drawn_114 : decode cX12_drawn 114 = .ok (.irem, 1) := by decide +kernel
theorem dX12_drawn_115 : decode cX12_drawn 115 = .ok (.aload_n 0, 1) := by decide +kernel
theorem dX12_drawn_116 : decode cX12_drawn 116 = .ok (.getfield 11, 3) := by decide +kernel
theorem dX12_drawn_119 : decode cX12_drawn 119 = .ok (.bipush 48, 2) := by decide +kernel
theorem dX12_drawn_121 : decode cX12_drawn 121 = .ok (.bipush 8, 2) := by decide +kernel
theorem dX12_drawn_123 : decode cX12_drawn 123 = .ok (.iload 4, 2) := by decide +kernel
theorem dX12_drawn_125 : decode cX12_drawn 125 = .ok (.imul, 1) := by decide +kernel
theorem dX12_drawn_126 : decode cX12_drawn 126 = .ok (.iadd, 1) := by decide +kernel
theorem dX12_drawn_127 : decode cX12_drawn 127 = .ok (.iload 9, 2) := by decide +kernel
theorem dX12_drawn_129 : decode cX12_drawn 129 = .ok (.iadd, 1) := by decide +kernel
theorem dX12_drawn_130 : decode cX12_drawn 130 = .ok (.iaload, 1) := by decide +kernel
theorem dX12_drawn_131 : decode cX12_drawn 131 = .ok (.if_icmp .ge 10, 3) := by decide +kernel
theorem dX12_drawn_134 : decode cX12_drawn 134 = .ok (.iconst 1, 1) := by decide +kernel
theorem dX12_drawn_135 : decode cX12_drawn 135 = .ok (.iload 9, 2) := by decide +kernel
theorem dX12_drawn_137 : decode cX12_drawn 137 = .ok (.ishl, 1) := by decide +kernel
theorem dX12_drawn_138 : decode cX12_drawn 138 = .ok (.goto 4, 3) := by decide +kernel
theorem dX12_drawn_141 : decode cX12_drawn 141 = .ok (.iconst 0, 1) := by decide +kernel
theorem dX12_drawn_142 : decode cX12_drawn 142 = .ok (.ior, 1) := by decide +kernel
theorem dX12_drawn_143 : decode cX12_drawn 143 = .ok (.putfield 216, 3) := by decide +kernel
theorem dX12_drawn_146 : decode cX12_drawn 146 = .ok (.iinc 9 1, 3) := by decide +kernel
theorem dX12_drawn_149 : decode cX12_drawn 149 = .ok (.goto (-66), 3) := by decide +kernel
theorem dX12_drawn_152 : decode cX12_drawn 152 = .ok (.aload_n 0, 1) := by decide +kernel
theorem dX12_drawn_153 : decode cX12_drawn 153 = .ok (.invokevirtual 146, 3) := by decide +kernel
theorem dX12_drawn_156 : decode cX12_drawn 156 = .ok (.iconst 0, 1) := by decide +kernel
theorem dX12_drawn_157 : decode cX12_drawn 157 = .ok (.istore 9, 2) := by decide +kernel
theorem dX12_drawn_159 : decode cX12_drawn 159 = .ok (.iconst 0, 1) := by decide +kernel
theorem dX12_drawn_160 : decode cX12_drawn 160 = .ok (.istore 10, 2) := by decide +kernel
theorem dX12_drawn_162 : decode cX12_drawn 162 = .ok (.iload 10, 2) := by decide +kernel
theorem dX12_drawn_164 : decode cX12_drawn 164 = .ok (.aload_n 0, 1) := by decide +kernel
theorem dX12_drawn_165 : decode cX12_drawn 165 = .ok (.getfield 93, 3) := by decide +kernel
theorem dX12_drawn_168 : decode cX12_drawn 168 = .ok (.if_icmp .ge 30, 3) := by decide +kernel
theorem dX12_drawn_171 : decode cX12_drawn 171 = .ok (.iload 9, 2) := by decide +kernel
theorem dX12_drawn_173 : decode cX12_drawn 173 = .ok (.aload_n 0, 1) := by decide +kernel
theorem dX12_drawn_174 : decode cX12_drawn 174 = .ok (.iload 10, 2) := by decide +kernel
theorem dX12_drawn_176 : decode cX12_drawn 176 = .ok (.iload 4, 2) := by decide +kernel
theorem dX12_drawn_178 : decode cX12_drawn 178 = .ok (.invokevirtual 249, 3) := by decide +kernel
theorem dX12_drawn_181 : decode cX12_drawn 181 = .ok (.ifCond .eq 7, 3) := by decide +kernel
theorem dX12_drawn_184 : decode cX12_drawn 184 = .ok (.iconst 1, 1) := by decide +kernel
theorem dX12_drawn_185 : decode cX12_drawn 185 = .ok (.goto 4, 3) := by decide +kernel
theorem dX12_drawn_188 : decode cX12_drawn 188 = .ok (.iconst 0, 1) := by decide +kernel
theorem dX12_drawn_189 : decode cX12_drawn 189 = .ok (.iadd, 1) := by decide +kernel
theorem dX12_drawn_190 : decode cX12_drawn 190 = .ok (.istore 9, 2) := by decide +kernel
theorem dX12_drawn_192 : decode cX12_drawn 192 = .ok (.iinc 10 1, 3) := by decide +kernel
theorem dX12_drawn_195 : decode cX12_drawn 195 = .ok (.goto (-33), 3) := by decide +kernel
theorem dX12_drawn_198 : decode cX12_drawn 198 = .ok (.iload 6, 2) := by decide +kernel
theorem dX12_drawn_200 : decode cX12_drawn 200 = .ok (.iload 9, 2) := by decide +kernel
theorem dX12_drawn_202 : decode cX12_drawn 202 = .ok (.iadd, 1) := by decide +kernel
theorem dX12_drawn_203 : decode cX12_drawn 203 = .ok (.istore 6, 2) := by decide +kernel
theorem dX12_drawn_205 : decode cX12_drawn 205 = .ok (.iload 7, 2) := by decide +kernel
theorem dX12_drawn_207 : decode cX12_drawn 207 = .ok (.iload 9, 2) := by decide +kernel
theorem dX12_drawn_209 : decode cX12_drawn 209 = .ok (.aload_n 0, 1) := by decide +kernel
theorem dX12_drawn_210 : decode cX12_drawn 210 = .ok (.getfield 93, 3) := by decide +kernel
theorem dX12_drawn_213 : decode cX12_drawn 213 = .ok (.if_icmp .ne 7, 3) := by decide +kernel
theorem dX12_drawn_216 : decode cX12_drawn 216 = .ok (.iconst 1, 1) := by decide +kernel
theorem dX12_drawn_217 : decode cX12_drawn 217 = .ok (.goto 4, 3) := by decide +kernel
theorem dX12_drawn_220 : decode cX12_drawn 220 = .ok (.iconst 0, 1) := by decide +kernel
theorem dX12_drawn_221 : decode cX12_drawn 221 = .ok (.iadd, 1) := by decide +kernel
theorem dX12_drawn_222 : decode cX12_drawn 222 = .ok (.istore 7, 2) := by decide +kernel
theorem dX12_drawn_224 : decode cX12_drawn 224 = .ok (.iinc 8 1, 3) := by decide +kernel
theorem dX12_drawn_227 : decode cX12_drawn 227 = .ok (.goto (-167), 3) := by decide +kernel
theorem dX12_drawn_230 : decode cX12_drawn 230 = .ok (.aload_n 0, 1) := by decide +kernel
theorem dX12_drawn_231 : decode cX12_drawn 231 = .ok (.iconst 0, 1) := by decide +kernel
theorem dX12_drawn_232 : decode cX12_drawn 232 = .ok (.putfield 216, 3) := by decide +kernel
theorem dX12_drawn_235 : decode cX12_drawn 235 = .ok (.iload_n 3, 1) := by decide +kernel
theorem dX12_drawn_236 : decode cX12_drawn 236 = .ok (.ifCond .ne 8, 3) := by decide +kernel
theorem dX12_drawn_239 : decode cX12_drawn 239 = .ok (.iload 6, 2) := by decide +kernel
theorem dX12_drawn_241 : decode cX12_drawn 241 = .ok (.goto 5, 3) := by decide +kernel
theorem dX12_drawn_244 : decode cX12_drawn 244 = .ok (.iload 7, 2) := by decide +kernel
theorem dX12_drawn_246 : decode cX12_drawn 246 = .ok (.ireturn, 1) := by decide +kernel
theorem dX12_lays_0 : decode cX12_lays 0 = .ok (.iconst 0, 1) := by decide +kernel
theorem dX12_lays_1 : decode cX12_lays 1 = .ok (.istore_n 1, 1) := by decide +kernel
theorem dX12_lays_2 : decode cX12_lays 2 = .ok (.iload_n 1, 1) := by decide +kernel
theorem dX12_lays_3 : decode cX12_lays 3 = .ok (.bipush 24, 2) := by decide +kernel
theorem dX12_lays_5 : decode cX12_lays 5 = .ok (.if_icmp .ge 21, 3) := by decide +kernel
theorem dX12_lays_8 : decode cX12_lays 8 = .ok (.aload_n 0, 1) := by decide +kernel
theorem dX12_lays_9 : decode cX12_lays 9 = .ok (.getfield 24, 3) := by decide +kernel
theorem dX12_lays_12 : decode cX12_lays 12 = .ok (.iload_n 1, 1) := by decide +kernel
theorem dX12_lays_13 : decode cX12_lays 13 = .ok (.aload_n 0, 1) := by decide +kernel
theorem dX12_lays_14 : decode cX12_lays 14 = .ok (.getfield 36, 3) := by decide +kernel
theorem dX12_lays_17 : decode cX12_lays 17 = .ok (.iload_n 1, 1) := by decide +kernel
theorem dX12_lays_18 : decode cX12_lays 18 = .ok (.iaload, 1) := by decide +kernel
theorem dX12_lays_19 : decode cX12_lays 19 = .ok (.iastore, 1) := by decide +kernel
theorem dX12_lays_20 : decode cX12_lays 20 = .ok (.iinc 1 1, 3) := by decide +kernel
theorem dX12_lays_23 : decode cX12_lays 23 = .ok (.goto (-21), 3) := by decide +kernel
theorem dX12_lays_26 : decode cX12_lays 26 = .ok (.aload_n 0, 1) := by decide +kernel
theorem dX12_lays_27 : decode cX12_lays 27 = .ok (.aload_n 0, 1) := by decide +kernel
theorem dX12_lays_28 : decode cX12_lays 28 = .ok (.getfield 210, 3) := by decide +kernel
theorem dX12_lays_31 : decode cX12_lays 31 = .ok (.putfield 153, 3) := by decide +kernel
theorem dX12_lays_34 : decode cX12_lays 34 = .ok (.return_, 1) := by decide +kernel
theorem dX12_go_0 : decode cX12_go 0 = .ok (.aload_n 0, 1) := by decide +kernel
theorem dX12_go_1 : decode cX12_go 1 = .ok (.iload_n 1, 1) := by decide +kernel
theorem dX12_go_2 : decode cX12_go 2 = .ok (.i2l, 1) := by decide +kernel
theorem dX12_go_3 : decode cX12_go 3 = .ok (.invokevirtual 125, 3) := by decide +kernel
theorem dX12_go_6 : decode cX12_go 6 = .ok (.ifCond .eq 11, 3) := by decide +kernel
theorem dX12_go_9 : decode cX12_go 9 = .ok (.iload_n 2, 1) := by decide +kernel
theorem dX12_go_10 : decode cX12_go 10 = .ok (.i2l, 1) := by decide +kernel
theorem dX12_go_11 : decode cX12_go 11 = .ok (.invokestatic 255, 3) := by decide +kernel
theorem dX12_go_14 : decode cX12_go 14 = .ok (.ifCond .ne 5, 3) := by decide +kernel
theorem dX12_go_17 : decode cX12_go 17 = .ok (.iconst (-1), 1) := by decide +kernel
theorem dX12_go_18 : decode cX12_go 18 = .ok (.ireturn, 1) := by decide +kernel
theorem dX12_go_19 : decode cX12_go 19 = .ok (.aload_n 0, 1) := by decide +kernel
theorem dX12_go_20 : decode cX12_go 20 = .ok (.invokevirtual 146, 3) := by decide +kernel
theorem dX12_go_23 : decode cX12_go 23 = .ok (.aload_n 0, 1) := by decide +kernel
theorem dX12_go_24 : decode cX12_go 24 = .ok (.iload_n 1, 1) := by decide +kernel
theorem dX12_go_25 : decode cX12_go 25 = .ok (.iload_n 2, 1) := by decide +kernel
theorem dX12_go_26 : decode cX12_go 26 = .ok (.invokevirtual 249, 3) := by decide +kernel
theorem dX12_go_29 : decode cX12_go 29 = .ok (.istore_n 3, 1) := by decide +kernel
theorem dX12_go_30 : decode cX12_go 30 = .ok (.aload_n 0, 1) := by decide +kernel
theorem dX12_go_31 : decode cX12_go 31 = .ok (.invokevirtual 346, 3) := by decide +kernel
theorem dX12_go_34 : decode cX12_go 34 = .ok (.aload_n 0, 1) := by decide +kernel
theorem dX12_go_35 : decode cX12_go 35 = .ok (.dup, 1) := by decide +kernel
theorem dX12_go_36 : decode cX12_go 36 = .ok (.getfield 349, 3) := by decide +kernel
theorem dX12_go_39 : decode cX12_go 39 = .ok (.iconst 1, 1) := by decide +kernel
theorem dX12_go_40 : decode cX12_go 40 = .ok (.iadd, 1) := by decide +kernel
theorem dX12_go_41 : decode cX12_go 41 = .ok (.putfield 349, 3) := by decide +kernel
theorem dX12_go_44 : decode cX12_go 44 = .ok (.aload_n 0, 1) := by decide +kernel
theorem dX12_go_45 : decode cX12_go 45 = .ok (.dup, 1) := by decide +kernel
theorem dX12_go_46 : decode cX12_go 46 = .ok (.getfield 352, 3) := by decide +kernel
theorem dX12_go_49 : decode cX12_go 49 = .ok (.iload_n 3, 1) := by decide +kernel
theorem dX12_go_50 : decode cX12_go 50 = .ok (.ifCond .eq 7, 3) := by decide +kernel
theorem dX12_go_53 : decode cX12_go 53 = .ok (.iconst 1, 1) := by decide +kernel
theorem dX12_go_54 : decode cX12_go 54 = .ok (.goto 4, 3) := by decide +kernel
theorem dX12_go_57 : decode cX12_go 57 = .ok (.iconst 0, 1) := by decide +kernel
theorem dX12_go_58 : decode cX12_go 58 = .ok (.iadd, 1) := by decide +kernel
theorem dX12_go_59 : decode cX12_go 59 = .ok (.putfield 352, 3) := by decide +kernel
theorem dX12_go_62 : decode cX12_go 62 = .ok (.aload_n 0, 1) := by decide +kernel
theorem dX12_go_63 : decode cX12_go 63 = .ok (.dup, 1) := by decide +kernel
theorem dX12_go_64 : decode cX12_go 64 = .ok (.getfield 355, 3) := by decide +kernel
theorem dX12_go_67 : decode cX12_go 67 = .ok (.iload_n 3, 1) := by decide +kernel
theorem dX12_go_68 : decode cX12_go 68 = .ok (.ifCond .eq 7, 3) := by decide +kernel
theorem dX12_go_71 : decode cX12_go 71 = .ok (.iconst 0, 1) := by decide +kernel
theorem dX12_go_72 : decode cX12_go 72 = .ok (.goto 4, 3) := by decide +kernel
theorem dX12_go_75 : decode cX12_go 75 = .ok (.iconst 1, 1) := by decide +kernel
theorem dX12_go_76 : decode cX12_go 76 = .ok (.iadd, 1) := by decide +kernel
theorem dX12_go_77 : decode cX12_go 77 = .ok (.putfield 355, 3) := by decide +kernel
theorem dX12_go_80 : decode cX12_go 80 = .ok (.aload_n 0, 1) := by decide +kernel
theorem dX12_go_81 : decode cX12_go 81 = .ok (.iload_n 3, 1) := by decide +kernel
theorem dX12_go_82 : decode cX12_go 82 = .ok (.ifCond .eq 25, 3) := by decide +kernel
theorem dX12_go_85 : decode cX12_go 85 = .ok (.aload_n 0, 1) := by decide +kernel
theorem dX12_go_86 : decode cX12_go 86 = .ok (.iload_n 1, 1) := by decide +kernel
theorem dX12_go_87 : decode cX12_go 87 = .ok (.iconst 0, 1) := by decide +kernel
theorem dX12_go_88 : decode cX12_go 88 = .ok (.invokevirtual 225, 3) := by decide +kernel
theorem dX12_go_91 : decode cX12_go 91 = .ok (.aload_n 0, 1) := by decide +kernel
theorem dX12_go_92 : decode cX12_go 92 = .ok (.getfield 358, 3) := by decide +kernel
theorem dX12_go_95 : decode cX12_go 95 = .ok (.if_icmp .le 12, 3) := by decide +kernel
theorem dX12_go_98 : decode cX12_go 98 = .ok (.aload_n 0, 1) := by decide +kernel
theorem dX12_go_99 : decode cX12_go 99 = .ok (.iload_n 1, 1) := by decide +kernel
theorem dX12_go_100 : decode cX12_go 100 = .ok (.iconst 0, 1) := by decide +kernel
theorem dX12_go_101 : decode cX12_go 101 = .ok (.invokevirtual 225, 3) := by decide +kernel
theorem dX12_go_104 : decode cX12_go 104 = .ok (.goto 7, 3) := by decide +kernel
theorem dX12_go_107 : decode cX12_go 107 = .ok (.aload_n 0, 1) := by decide +kernel
theorem dX12_go_108 : decode cX12_go 108 = .ok (.getfield 358, 3) := by decide +kernel
theorem dX12_go_111 : decode cX12_go 111 = .ok (.putfield 358, 3) := by decide +kernel
theorem dX12_go_114 : decode cX12_go 114 = .ok (.aload_n 0, 1) := by decide +kernel
theorem dX12_go_115 : decode cX12_go 115 = .ok (.iload_n 3, 1) := by decide +kernel
theorem dX12_go_116 : decode cX12_go 116 = .ok (.ifCond .eq 10, 3) := by decide +kernel
theorem dX12_go_119 : decode cX12_go 119 = .ok (.aload_n 0, 1) := by decide +kernel
theorem dX12_go_120 : decode cX12_go 120 = .ok (.getfield 84, 3) := by decide +kernel
theorem dX12_go_123 : decode cX12_go 123 = .ok (.goto 7, 3) := by decide +kernel
theorem dX12_go_126 : decode cX12_go 126 = .ok (.aload_n 0, 1) := by decide +kernel
theorem dX12_go_127 : decode cX12_go 127 = .ok (.getfield 232, 3) := by decide +kernel
theorem dX12_go_130 : decode cX12_go 130 = .ok (.putfield 84, 3) := by decide +kernel
theorem dX12_go_133 : decode cX12_go 133 = .ok (.iload_n 3, 1) := by decide +kernel
theorem dX12_go_134 : decode cX12_go 134 = .ok (.ifCond .eq 7, 3) := by decide +kernel
theorem dX12_go_137 : decode cX12_go 137 = .ok (.iconst 1, 1) := by decide +kernel
theorem dX12_go_138 : decode cX12_go 138 = .ok (.goto 4, 3) := by decide +kernel
theorem dX12_go_141 : decode cX12_go 141 = .ok (.iconst 0, 1) := by decide +kernel
theorem dX12_go_142 : decode cX12_go 142 = .ok (.ireturn, 1) := by decide +kernel
theorem dX12_stay_0 : decode cX12_stay 0 = .ok (.iload_n 1, 1) := by decide +kernel
theorem dX12_stay_1 : decode cX12_stay 1 = .ok (.i2l, 1) := by decide +kernel
theorem dX12_stay_2 : decode cX12_stay 2 = .ok (.lconst 1, 1) := by decide +kernel
theorem dX12_stay_3 : decode cX12_stay 3 = .ok (.ldc2_w 131, 3) := by decide +kernel
theorem dX12_stay_6 : decode cX12_stay 6 = .ok (.invokestatic 96, 3) := by decide +kernel
theorem dX12_stay_9 : decode cX12_stay 9 = .ok (.ifCond .ne 5, 3) := by decide +kernel
theorem dX12_stay_12 : decode cX12_stay 12 = .ok (.iconst (-1), 1) := by decide +kernel
theorem dX12_stay_13 : decode cX12_stay 13 = .ok (.ireturn, 1) := by decide +kernel
theorem dX12_stay_14 : decode cX12_stay 14 = .ok (.aload_n 0, 1) := by decide +kernel
theorem dX12_stay_15 : decode cX12_stay 15 = .ok (.getfield 153, 3) := by decide +kernel
theorem dX12_stay_18 : decode cX12_stay 18 = .ok (.iload_n 1, 1) := by decide +kernel
theorem dX12_stay_19 : decode cX12_stay 19 = .ok (.iadd, 1) := by decide +kernel
theorem dX12_stay_20 : decode cX12_stay 20 = .ok (.sipush 9999, 3) := by decide +kernel
theorem dX12_stay_23 : decode cX12_stay 23 = .ok (.if_icmp .le 6, 3) := by decide +kernel
theorem dX12_stay_26 : decode cX12_stay 26 = .ok (.bipush (-5), 2) := by decide +kernel
theorem dX12_stay_28 : decode cX12_stay 28 = .ok (.ireturn, 1) := by decide +kernel
theorem dX12_stay_29 : decode cX12_stay 29 = .ok (.aload_n 0, 1) := by decide +kernel
theorem dX12_stay_30 : decode cX12_stay 30 = .ok (.invokevirtual 146, 3) := by decide +kernel
theorem dX12_stay_33 : decode cX12_stay 33 = .ok (.aload_n 0, 1) := by decide +kernel
theorem dX12_stay_34 : decode cX12_stay 34 = .ok (.iload_n 1, 1) := by decide +kernel
theorem dX12_stay_35 : decode cX12_stay 35 = .ok (.invokevirtual 235, 3) := by decide +kernel
theorem dX12_stay_38 : decode cX12_stay 38 = .ok (.aload_n 0, 1) := by decide +kernel
theorem dX12_stay_39 : decode cX12_stay 39 = .ok (.invokevirtual 346, 3) := by decide +kernel
theorem dX12_stay_42 : decode cX12_stay 42 = .ok (.aload_n 0, 1) := by decide +kernel
theorem dX12_stay_43 : decode cX12_stay 43 = .ok (.getfield 153, 3) := by decide +kernel
theorem dX12_stay_46 : decode cX12_stay 46 = .ok (.ireturn, 1) := by decide +kernel
theorem dX12_led_0 : decode cX12_led 0 = .ok (.iload_n 1, 1) := by decide +kernel
theorem dX12_led_1 : decode cX12_led 1 = .ok (.tableswitch 60 0 4 #[35, 40, 45, 50, 55], 35) := by decide +kernel
theorem dX12_led_36 : decode cX12_led 36 = .ok (.aload_n 0, 1) := by decide +kernel
theorem dX12_led_37 : decode cX12_led 37 = .ok (.getfield 349, 3) := by decide +kernel
theorem dX12_led_40 : decode cX12_led 40 = .ok (.ireturn, 1) := by decide +kernel
theorem dX12_led_41 : decode cX12_led 41 = .ok (.aload_n 0, 1) := by decide +kernel
theorem dX12_led_42 : decode cX12_led 42 = .ok (.getfield 352, 3) := by decide +kernel
theorem dX12_led_45 : decode cX12_led 45 = .ok (.ireturn, 1) := by decide +kernel
theorem dX12_led_46 : decode cX12_led 46 = .ok (.aload_n 0, 1) := by decide +kernel
theorem dX12_led_47 : decode cX12_led 47 = .ok (.getfield 355, 3) := by decide +kernel
theorem dX12_led_50 : decode cX12_led 50 = .ok (.ireturn, 1) := by decide +kernel
theorem dX12_led_51 : decode cX12_led 51 = .ok (.aload_n 0, 1) := by decide +kernel
theorem dX12_led_52 : decode cX12_led 52 = .ok (.getfield 358, 3) := by decide +kernel
theorem dX12_led_55 : decode cX12_led 55 = .ok (.ireturn, 1) := by decide +kernel
theorem dX12_led_56 : decode cX12_led 56 = .ok (.aload_n 0, 1) := by decide +kernel
theorem dX12_led_57 : decode cX12_led 57 = .ok (.getfield 84, 3) := by decide +kernel
theorem dX12_led_60 : decode cX12_led 60 = .ok (.ireturn, 1) := by decide +kernel
theorem dX12_led_61 : decode cX12_led 61 = .ok (.iconst (-1), 1) := by decide +kernel
theorem dX12_led_62 : decode cX12_led 62 = .ok (.ireturn, 1) := by decide +kernel
theorem dX12_image_0 : decode cX12_image 0 = .ok (.aload_n 0, 1) := by decide +kernel
theorem dX12_image_1 : decode cX12_image 1 = .ok (.iconst 1, 1) := by decide +kernel
theorem dX12_image_2 : decode cX12_image 2 = .ok (.putfield 361, 3) := by decide +kernel
theorem dX12_image_5 : decode cX12_image 5 = .ok (.iconst 0, 1) := by decide +kernel
theorem dX12_image_6 : decode cX12_image 6 = .ok (.istore_n 1, 1) := by decide +kernel
theorem dX12_image_7 : decode cX12_image 7 = .ok (.iload_n 1, 1) := by decide +kernel
theorem dX12_image_8 : decode cX12_image 8 = .ok (.bipush 24, 2) := by decide +kernel
theorem dX12_image_10 : decode cX12_image 10 = .ok (.if_icmp .ge 21, 3) := by decide +kernel
theorem dX12_image_13 : decode cX12_image 13 = .ok (.aload_n 0, 1) := by decide +kernel
theorem dX12_image_14 : decode cX12_image 14 = .ok (.getfield 59, 3) := by decide +kernel
theorem dX12_image_17 : decode cX12_image 17 = .ok (.iload_n 1, 1) := by decide +kernel
theorem dX12_image_18 : decode cX12_image 18 = .ok (.aload_n 0, 1) := by decide +kernel
theorem dX12_image_19 : decode cX12_image 19 = .ok (.getfield 24, 3) := by decide +kernel
theorem dX12_image_22 : decode cX12_image 22 = .ok (.iload_n 1, 1) := by decide +kernel
theorem dX12_image_23 : decode cX12_image 23 = .ok (.iaload, 1) := by decide +kernel
theorem dX12_image_24 : decode cX12_image 24 = .ok (.iastore, 1) := by decide +kernel
theorem dX12_image_25 : decode cX12_image 25 = .ok (.iinc 1 1, 3) := by decide +kernel
theorem dX12_image_28 : decode cX12_image 28 = .ok (.goto (-21), 3) := by decide +kernel
theorem dX12_image_31 : decode cX12_image 31 = .ok (.aload_n 0, 1) := by decide +kernel
theorem dX12_image_32 : decode cX12_image 32 = .ok (.getfield 59, 3) := by decide +kernel
theorem dX12_image_35 : decode cX12_image 35 = .ok (.bipush 24, 2) := by decide +kernel
theorem dX12_image_37 : decode cX12_image 37 = .ok (.aload_n 0, 1) := by decide +kernel
theorem dX12_image_38 : decode cX12_image 38 = .ok (.getfield 153, 3) := by decide +kernel
theorem dX12_image_41 : decode cX12_image 41 = .ok (.iastore, 1) := by decide +kernel
theorem dX12_image_42 : decode cX12_image 42 = .ok (.iconst 0, 1) := by decide +kernel
theorem dX12_image_43 : decode cX12_image 43 = .ok (.istore_n 1, 1) := by decide +kernel
theorem dX12_image_44 : decode cX12_image 44 = .ok (.iload_n 1, 1) := by decide +kernel
theorem dX12_image_45 : decode cX12_image 45 = .ok (.iconst 5, 1) := by decide +kernel
theorem dX12_image_46 : decode cX12_image 46 = .ok (.if_icmp .ge 23, 3) := by decide +kernel
theorem dX12_image_49 : decode cX12_image 49 = .ok (.aload_n 0, 1) := by decide +kernel
theorem dX12_image_50 : decode cX12_image 50 = .ok (.getfield 59, 3) := by decide +kernel
theorem dX12_image_53 : decode cX12_image 53 = .ok (.bipush 25, 2) := by decide +kernel
theorem dX12_image_55 : decode cX12_image 55 = .ok (.iload_n 1, 1) := by decide +kernel
theorem dX12_image_56 : decode cX12_image 56 = .ok (.iadd, 1) := by decide +kernel
theorem dX12_image_57 : decode cX12_image 57 = .ok (.aload_n 0, 1) := by decide +kernel
theorem dX12_image_58 : decode cX12_image 58 = .ok (.iload_n 1, 1) := by decide +kernel
theorem dX12_image_59 : decode cX12_image 59 = .ok (.invokevirtual 364, 3) := by decide +kernel
theorem dX12_image_62 : decode cX12_image 62 = .ok (.iastore, 1) := by decide +kernel
theorem dX12_image_63 : decode cX12_image 63 = .ok (.iinc 1 1, 3) := by decide +kernel
theorem dX12_image_66 : decode cX12_image 66 = .ok (.goto (-22), 3) := by decide +kernel
theorem dX12_image_69 : decode cX12_image 69 = .ok (.aload_n 0, 1) := by decide +kernel
theorem dX12_image_70 : decode cX12_image 70 = .ok (.getfield 153, 3) := by decide +kernel
theorem dX12_image_73 : decode cX12_image 73 = .ok (.ireturn, 1) := by decide +kernel
theorem dX12_back_0 : decode cX12_back 0 = .ok (.aload_n 0, 1) := by decide +kernel
theorem dX12_back_1 : decode cX12_back 1 = .ok (.getfield 361, 3) := by decide +kernel
theorem dX12_back_4 : decode cX12_back 4 = .ok (.ifCond .ne 6, 3) := by decide +kernel
theorem dX12_back_7 : decode cX12_back 7 = .ok (.bipush (-5), 2) := by decide +kernel
theorem dX12_back_9 : decode cX12_back 9 = .ok (.ireturn, 1) := by decide +kernel
theorem dX12_back_10 : decode cX12_back 10 = .ok (.iconst 0, 1) := by decide +kernel
theorem dX12_back_11 : decode cX12_back 11 = .ok (.istore_n 1, 1) := by decide +kernel
theorem dX12_back_12 : decode cX12_back 12 = .ok (.iload_n 1, 1) := by decide +kernel
theorem dX12_back_13 : decode cX12_back 13 = .ok (.bipush 24, 2) := by decide +kernel
theorem dX12_back_15 : decode cX12_back 15 = .ok (.if_icmp .ge 21, 3) := by decide +kernel
theorem dX12_back_18 : decode cX12_back 18 = .ok (.aload_n 0, 1) := by decide +kernel
theorem dX12_back_19 : decode cX12_back 19 = .ok (.getfield 24, 3) := by decide +kernel
theorem dX12_back_22 : decode cX12_back 22 = .ok (.iload_n 1, 1) := by decide +kernel
theorem dX12_back_23 : decode cX12_back 23 = .ok (.aload_n 0, 1) := by decide +kernel
theorem dX12_back_24 : decode cX12_back 24 = .ok (.getfield 59, 3) := by decide +kernel
theorem dX12_back_27 : decode cX12_back 27 = .ok (.iload_n 1, 1) := by decide +kernel
theorem dX12_back_28 : decode cX12_back 28 = .ok (.iaload, 1) := by decide +kernel
theorem dX12_back_29 : decode cX12_back 29 = .ok (.iastore, 1) := by decide +kernel
theorem dX12_back_30 : decode cX12_back 30 = .ok (.iinc 1 1, 3) := by decide +kernel
theorem dX12_back_33 : decode cX12_back 33 = .ok (.goto (-21), 3) := by decide +kernel
theorem dX12_back_36 : decode cX12_back 36 = .ok (.aload_n 0, 1) := by decide +kernel
theorem dX12_back_37 : decode cX12_back 37 = .ok (.aload_n 0, 1) := by decide +kernel
theorem dX12_back_38 : decode cX12_back 38 = .ok (.getfield 59, 3) := by decide +kernel
theorem dX12_back_41 : decode cX12_back 41 = .ok (.bipush 24, 2) := by decide +kernel
theorem dX12_back_43 : decode cX12_back 43 = .ok (.iaload, 1) := by decide +kernel
theorem dX12_back_44 : decode cX12_back 44 = .ok (.putfield 153, 3) := by decide +kernel
theorem dX12_back_47 : decode cX12_back 47 = .ok (.aload_n 0, 1) := by decide +kernel
theorem dX12_back_48 : decode cX12_back 48 = .ok (.aload_n 0, 1) := by decide +kernel
theorem dX12_back_49 : decode cX12_back 49 = .ok (.getfield 59, 3) := by decide +kernel
theorem dX12_back_52 : decode cX12_back 52 = .ok (.bipush 25, 2) := by decide +kernel
theorem dX12_back_54 : decode cX12_back 54 = .ok (.iaload, 1) := by decide +kernel
theorem dX12_back_55 : decode cX12_back 55 = .ok (.putfield 349, 3) := by decide +kernel
theorem dX12_back_58 : decode cX12_back 58 = .ok (.aload_n 0, 1) := by decide +kernel
theorem dX12_back_59 : decode cX12_back 59 = .ok (.aload_n 0, 1) := by decide +kernel
theorem dX12_back_60 : decode cX12_back 60 = .ok (.getfield 59, 3) := by decide +kernel
theorem dX12_back_63 : decode cX12_back 63 = .ok (.bipush 26, 2) := by decide +kernel
theorem dX12_back_65 : decode cX12_back 65 = .ok (.iaload, 1) := by decide +kernel
theorem dX12_back_66 : decode cX12_back 66 = .ok (.putfield 352, 3) := by decide +kernel
theorem dX12_back_69 : decode cX12_back 69 = .ok (.aload_n 0, 1) := by decide +kernel
theorem dX12_back_70 : decode cX12_back 70 = .ok (.aload_n 0, 1) := by decide +kernel
theorem dX12_back_71 : decode cX12_back 71 = .ok (.getfield 59, 3) := by decide +kernel
theorem dX12_back_74 : decode cX12_back 74 = .ok (.bipush 27, 2) := by decide +kernel
theorem dX12_back_76 : decode cX12_back 76 = .ok (.iaload, 1) := by decide +kernel
theorem dX12_back_77 : decode cX12_back 77 = .ok (.putfield 355, 3) := by decide +kernel
theorem dX12_back_80 : decode cX12_back 80 = .ok (.aload_n 0, 1) := by decide +kernel
theorem dX12_back_81 : decode cX12_back 81 = .ok (.aload_n 0, 1) := by decide +kernel
theorem dX12_back_82 : decode cX12_back 82 = .ok (.getfield 59, 3) := by decide +kernel
theorem dX12_back_85 : decode cX12_back 85 = .ok (.bipush 28, 2) := by decide +kernel
theorem dX12_back_87 : decode cX12_back 87 = .ok (.iaload, 1) := by decide +kernel
theorem dX12_back_88 : decode cX12_back 88 = .ok (.putfield 358, 3) := by decide +kernel
theorem dX12_back_91 : decode cX12_back 91 = .ok (.aload_n 0, 1) := by decide +kernel
theorem dX12_back_92 : decode cX12_back 92 = .ok (.aload_n 0, 1) := by decide +kernel
theorem dX12_back_93 : decode cX12_back 93 = .ok (.getfield 59, 3) := by decide +kernel
theorem dX12_back_96 : decode cX12_back 96 = .ok (.bipush 29, 2) := by decide +kernel
theorem dX12_back_98 : decode cX12_back 98 = .ok (.iaload, 1) := by decide +kernel
theorem dX12_back_99 : decode cX12_back 99 = .ok (.putfield 84, 3) := by decide +kernel
theorem dX12_back_102 : decode cX12_back 102 = .ok (.aload_n 0, 1) := by decide +kernel
theorem dX12_back_103 : decode cX12_back 103 = .ok (.getfield 153, 3) := by decide +kernel
theorem dX12_back_106 : decode cX12_back 106 = .ok (.ireturn, 1) := by decide +kernel
theorem dX12_weakMany_0 : decode cX12_weakMany 0 = .ok (.iconst 0, 1) := by decide +kernel
theorem dX12_weakMany_1 : decode cX12_weakMany 1 = .ok (.istore_n 1, 1) := by decide +kernel
theorem dX12_weakMany_2 : decode cX12_weakMany 2 = .ok (.iconst 0, 1) := by decide +kernel
theorem dX12_weakMany_3 : decode cX12_weakMany 3 = .ok (.istore_n 2, 1) := by decide +kernel
theorem dX12_weakMany_4 : decode cX12_weakMany 4 = .ok (.iload_n 2, 1) := by decide +kernel
theorem dX12_weakMany_5 : decode cX12_weakMany 5 = .ok (.bipush 24, 2) := by decide +kernel
theorem dX12_weakMany_7 : decode cX12_weakMany 7 = .ok (.if_icmp .ge 26, 3) := by decide +kernel
theorem dX12_weakMany_10 : decode cX12_weakMany 10 = .ok (.iload_n 1, 1) := by decide +kernel
theorem dX12_weakMany_11 : decode cX12_weakMany 11 = .ok (.aload_n 0, 1) := by decide +kernel
theorem dX12_weakMany_12 : decode cX12_weakMany 12 = .ok (.getfield 24, 3) := by decide +kernel
theorem dX12_weakMany_15 : decode cX12_weakMany 15 = .ok (.iload_n 2, 1) := by decide +kernel
theorem dX12_weakMany_16 : decode cX12_weakMany 16 = .ok (.iaload, 1) := by decide +kernel
theorem dX12_weakMany_17 : decode cX12_weakMany 17 = .ok (.ifCond .le 7, 3) := by decide +kernel
theorem dX12_weakMany_20 : decode cX12_weakMany 20 = .ok (.iconst 1, 1) := by decide +kernel
theorem dX12_weakMany_21 : decode cX12_weakMany 21 = .ok (.goto 4, 3) := by decide +kernel
theorem dX12_weakMany_24 : decode cX12_weakMany 24 = .ok (.iconst 0, 1) := by decide +kernel
theorem dX12_weakMany_25 : decode cX12_weakMany 25 = .ok (.iadd, 1) := by decide +kernel
theorem dX12_weakMany_26 : decode cX12_weakMany 26 = .ok (.istore_n 1, 1) := by decide +kernel
theorem dX12_weakMany_27 : decode cX12_weakMany 27 = .ok (.iinc 2 1, 3) := by decide +kernel
theorem dX12_weakMany_30 : decode cX12_weakMany 30 = .ok (.goto (-26), 3) := by decide +kernel
theorem dX12_weakMany_33 : decode cX12_weakMany 33 = .ok (.iload_n 1, 1) := by decide +kernel
theorem dX12_weakMany_34 : decode cX12_weakMany 34 = .ok (.ireturn, 1) := by decide +kernel
theorem dX12_isBody_0 : decode cX12_isBody 0 = .ok (.iload_n 1, 1) := by decide +kernel
theorem dX12_isBody_1 : decode cX12_isBody 1 = .ok (.i2l, 1) := by decide +kernel
theorem dX12_isBody_2 : decode cX12_isBody 2 = .ok (.lconst 0, 1) := by decide +kernel
theorem dX12_isBody_3 : decode cX12_isBody 3 = .ok (.aload_n 0, 1) := by decide +kernel
theorem dX12_isBody_4 : decode cX12_isBody 4 = .ok (.getfield 367, 3) := by decide +kernel
theorem dX12_isBody_7 : decode cX12_isBody 7 = .ok (.iconst 1, 1) := by decide +kernel
theorem dX12_isBody_8 : decode cX12_isBody 8 = .ok (.isub, 1) := by decide +kernel
theorem dX12_isBody_9 : decode cX12_isBody 9 = .ok (.i2l, 1) := by decide +kernel
theorem dX12_isBody_10 : decode cX12_isBody 10 = .ok (.invokestatic 96, 3) := by decide +kernel
theorem dX12_isBody_13 : decode cX12_isBody 13 = .ok (.ireturn, 1) := by decide +kernel
theorem dX12_kindOf_0 : decode cX12_kindOf 0 = .ok (.aload_n 0, 1) := by decide +kernel
theorem dX12_kindOf_1 : decode cX12_kindOf 1 = .ok (.getfield 62, 3) := by decide +kernel
theorem dX12_kindOf_4 : decode cX12_kindOf 4 = .ok (.iload_n 1, 1) := by decide +kernel
theorem dX12_kindOf_5 : decode cX12_kindOf 5 = .ok (.iaload, 1) := by decide +kernel
theorem dX12_kindOf_6 : decode cX12_kindOf 6 = .ok (.ireturn, 1) := by decide +kernel
theorem dX12_body_0 : decode cX12_body 0 = .ok (.iload_n 1, 1) := by decide +kernel
theorem dX12_body_1 : decode cX12_body 1 = .ok (.i2l, 1) := by decide +kernel
theorem dX12_body_2 : decode cX12_body 2 = .ok (.lconst 0, 1) := by decide +kernel
theorem dX12_body_3 : decode cX12_body 3 = .ok (.ldc2_w 114, 3) := by decide +kernel
theorem dX12_body_6 : decode cX12_body 6 = .ok (.invokestatic 96, 3) := by decide +kernel
theorem dX12_body_9 : decode cX12_body 9 = .ok (.ifCond .ne 5, 3) := by decide +kernel
theorem dX12_body_12 : decode cX12_body 12 = .ok (.iconst (-1), 1) := by decide +kernel
theorem dX12_body_13 : decode cX12_body 13 = .ok (.ireturn, 1) := by decide +kernel
theorem dX12_body_14 : decode cX12_body 14 = .ok (.aload_n 0, 1) := by decide +kernel
theorem dX12_body_15 : decode cX12_body 15 = .ok (.getfield 367, 3) := by decide +kernel
theorem dX12_body_18 : decode cX12_body 18 = .ok (.bipush 50, 2) := by decide +kernel
theorem dX12_body_20 : decode cX12_body 20 = .ok (.if_icmp .ne 6, 3) := by decide +kernel
theorem dX12_body_23 : decode cX12_body 23 = .ok (.bipush (-3), 2) := by decide +kernel
theorem dX12_body_25 : decode cX12_body 25 = .ok (.ireturn, 1) := by decide +kernel
theorem dX12_body_26 : decode cX12_body 26 = .ok (.aload_n 0, 1) := by decide +kernel
theorem dX12_body_27 : decode cX12_body 27 = .ok (.getfield 62, 3) := by decide +kernel
theorem dX12_body_30 : decode cX12_body 30 = .ok (.aload_n 0, 1) := by decide +kernel
theorem dX12_body_31 : decode cX12_body 31 = .ok (.getfield 367, 3) := by decide +kernel
theorem dX12_body_34 : decode cX12_body 34 = .ok (.iload_n 1, 1) := by decide +kernel
theorem dX12_body_35 : decode cX12_body 35 = .ok (.iastore, 1) := by decide +kernel
theorem dX12_body_36 : decode cX12_body 36 = .ok (.aload_n 0, 1) := by decide +kernel
theorem dX12_body_37 : decode cX12_body 37 = .ok (.dup, 1) := by decide +kernel
theorem dX12_body_38 : decode cX12_body 38 = .ok (.getfield 367, 3) := by decide +kernel
theorem dX12_body_41 : decode cX12_body 41 = .ok (.iconst 1, 1) := by decide +kernel
theorem dX12_body_42 : decode cX12_body 42 = .ok (.iadd, 1) := by decide +kernel
theorem dX12_body_43 : decode cX12_body 43 = .ok (.putfield 367, 3) := by decide +kernel
theorem dX12_body_46 : decode cX12_body 46 = .ok (.aload_n 0, 1) := by decide +kernel
theorem dX12_body_47 : decode cX12_body 47 = .ok (.getfield 367, 3) := by decide +kernel
theorem dX12_body_50 : decode cX12_body 50 = .ok (.iconst 1, 1) := by decide +kernel
theorem dX12_body_51 : decode cX12_body 51 = .ok (.isub, 1) := by decide +kernel
theorem dX12_body_52 : decode cX12_body 52 = .ok (.ireturn, 1) := by decide +kernel
theorem dX12_above_0 : decode cX12_above 0 = .ok (.iload_n 0, 1) := by decide +kernel
theorem dX12_above_1 : decode cX12_above 1 = .ok (.iconst 3, 1) := by decide +kernel
theorem dX12_above_2 : decode cX12_above 2 = .ok (.if_icmp .ne 7, 3) := by decide +kernel
theorem dX12_above_5 : decode cX12_above 5 = .ok (.iconst 2, 1) := by decide +kernel
theorem dX12_above_6 : decode cX12_above 6 = .ok (.goto 32, 3) := by decide +kernel
theorem dX12_above_9 : decode cX12_above 9 = .ok (.iload_n 0, 1) := by decide +kernel
theorem dX12_above_10 : decode cX12_above 10 = .ok (.iconst 4, 1) := by decide +kernel
theorem dX12_above_11 : decode cX12_above 11 = .ok (.if_icmp .ne 7, 3) := by decide +kernel
theorem dX12_above_14 : decode cX12_above 14 = .ok (.iconst 1, 1) := by decide +kernel
theorem dX12_above_15 : decode cX12_above 15 = .ok (.goto 23, 3) := by decide +kernel
theorem dX12_above_18 : decode cX12_above 18 = .ok (.iload_n 0, 1) := by decide +kernel
theorem dX12_above_19 : decode cX12_above 19 = .ok (.iconst 5, 1) := by decide +kernel
theorem dX12_above_20 : decode cX12_above 20 = .ok (.if_icmp .ne 7, 3) := by decide +kernel
theorem dX12_above_23 : decode cX12_above 23 = .ok (.iconst 3, 1) := by decide +kernel
theorem dX12_above_24 : decode cX12_above 24 = .ok (.goto 14, 3) := by decide +kernel
theorem dX12_above_27 : decode cX12_above 27 = .ok (.iload_n 0, 1) := by decide +kernel
theorem dX12_above_28 : decode cX12_above 28 = .ok (.bipush 7, 2) := by decide +kernel
theorem dX12_above_30 : decode cX12_above 30 = .ok (.if_icmp .ne 7, 3) := by decide +kernel
theorem dX12_above_33 : decode cX12_above 33 = .ok (.iconst 4, 1) := by decide +kernel
theorem dX12_above_34 : decode cX12_above 34 = .ok (.goto 4, 3) := by decide +kernel
theorem dX12_above_37 : decode cX12_above 37 = .ok (.iconst 0, 1) := by decide +kernel
theorem dX12_above_38 : decode cX12_above 38 = .ok (.ireturn, 1) := by decide +kernel
theorem dX12_begins_0 : decode cX12_begins 0 = .ok (.aload_n 0, 1) := by decide +kernel
theorem dX12_begins_1 : decode cX12_begins 1 = .ok (.getfield 370, 3) := by decide +kernel
theorem dX12_begins_4 : decode cX12_begins 4 = .ok (.bipush 24, 2) := by decide +kernel
theorem dX12_begins_6 : decode cX12_begins 6 = .ok (.if_icmp .ge 13, 3) := by decide +kernel
theorem dX12_begins_9 : decode cX12_begins 9 = .ok (.aload_n 0, 1) := by decide +kernel
theorem dX12_begins_10 : decode cX12_begins 10 = .ok (.getfield 65, 3) := by decide +kernel
theorem dX12_begins_13 : decode cX12_begins 13 = .ok (.aload_n 0, 1) := by decide +kernel
theorem dX12_begins_14 : decode cX12_begins 14 = .ok (.getfield 370, 3) := by decide +kernel
theorem dX12_begins_17 : decode cX12_begins 17 = .ok (.iload_n 1, 1) := by decide +kernel
theorem dX12_begins_18 : decode cX12_begins 18 = .ok (.iastore, 1) := by decide +kernel
theorem dX12_begins_19 : decode cX12_begins 19 = .ok (.aload_n 0, 1) := by decide +kernel
theorem dX12_begins_20 : decode cX12_begins 20 = .ok (.dup, 1) := by decide +kernel
theorem dX12_begins_21 : decode cX12_begins 21 = .ok (.getfield 370, 3) := by decide +kernel
theorem dX12_begins_24 : decode cX12_begins 24 = .ok (.iconst 1, 1) := by decide +kernel
theorem dX12_begins_25 : decode cX12_begins 25 = .ok (.iadd, 1) := by decide +kernel
theorem dX12_begins_26 : decode cX12_begins 26 = .ok (.putfield 370, 3) := by decide +kernel
theorem dX12_begins_29 : decode cX12_begins 29 = .ok (.return_, 1) := by decide +kernel
theorem dX12_goesAs_0 : decode cX12_goesAs 0 = .ok (.iload_n 1, 1) := by decide +kernel
theorem dX12_goesAs_1 : decode cX12_goesAs 1 = .ok (.iconst 1, 1) := by decide +kernel
theorem dX12_goesAs_2 : decode cX12_goesAs 2 = .ok (.if_icmp .eq 14, 3) := by decide +kernel
theorem dX12_goesAs_5 : decode cX12_goesAs 5 = .ok (.iload_n 1, 1) := by decide +kernel
theorem dX12_goesAs_6 : decode cX12_goesAs 6 = .ok (.iconst 4, 1) := by decide +kernel
theorem dX12_goesAs_7 : decode cX12_goesAs 7 = .ok (.if_icmp .eq 9, 3) := by decide +kernel
theorem dX12_goesAs_10 : decode cX12_goesAs 10 = .ok (.iload_n 1, 1) := by decide +kernel
theorem dX12_goesAs_11 : decode cX12_goesAs 11 = .ok (.bipush 7, 2) := by decide +kernel
theorem dX12_goesAs_13 : decode cX12_goesAs 13 = .ok (.if_icmp .ne 18, 3) := by decide +kernel
theorem dX12_goesAs_16 : decode cX12_goesAs 16 = .ok (.aload_n 0, 1) := by decide +kernel
theorem dX12_goesAs_17 : decode cX12_goesAs 17 = .ok (.bipush 20, 2) := by decide +kernel
theorem dX12_goesAs_19 : decode cX12_goesAs 19 = .ok (.invokevirtual 373, 3) := by decide +kernel
theorem dX12_goesAs_22 : decode cX12_goesAs 22 = .ok (.aload_n 0, 1) := by decide +kernel
theorem dX12_goesAs_23 : decode cX12_goesAs 23 = .ok (.iconst 0, 1) := by decide +kernel
theorem dX12_goesAs_24 : decode cX12_goesAs 24 = .ok (.iload_n 2, 1) := by decide +kernel
theorem dX12_goesAs_25 : decode cX12_goesAs 25 = .ok (.invokevirtual 376, 3) := by decide +kernel
theorem dX12_goesAs_28 : decode cX12_goesAs 28 = .ok (.iconst 3, 1) := by decide +kernel
theorem dX12_goesAs_29 : decode cX12_goesAs 29 = .ok (.iadd, 1) := by decide +kernel
theorem dX12_goesAs_30 : decode cX12_goesAs 30 = .ok (.ireturn, 1) := by decide +kernel
theorem dX12_goesAs_31 : decode cX12_goesAs 31 = .ok (.iload_n 1, 1) := by decide +kernel
theorem dX12_goesAs_32 : decode cX12_goesAs 32 = .ok (.bipush 6, 2) := by decide +kernel
theorem dX12_goesAs_34 : decode cX12_goesAs 34 = .ok (.if_icmp .ne 18, 3) := by decide +kernel
theorem dX12_goesAs_37 : decode cX12_goesAs 37 = .ok (.aload_n 0, 1) := by decide +kernel
theorem dX12_goesAs_38 : decode cX12_goesAs 38 = .ok (.bipush 70, 2) := by decide +kernel
theorem dX12_goesAs_40 : decode cX12_goesAs 40 = .ok (.invokevirtual 373, 3) := by decide +kernel
theorem dX12_goesAs_43 : decode cX12_goesAs 43 = .ok (.aload_n 0, 1) := by decide +kernel
theorem dX12_goesAs_44 : decode cX12_goesAs 44 = .ok (.iconst 0, 1) := by decide +kernel
theorem dX12_goesAs_45 : decode cX12_goesAs 45 = .ok (.iload_n 2, 1) := by decide +kernel
theorem dX12_goesAs_46 : decode cX12_goesAs 46 = .ok (.invokevirtual 376, 3) := by decide +kernel
theorem dX12_goesAs_49 : decode cX12_goesAs 49 = .ok (.iconst 2, 1) := by decide +kernel
theorem dX12_goesAs_50 : decode cX12_goesAs 50 = .ok (.imul, 1) := by decide +kernel
theorem dX12_goesAs_51 : decode cX12_goesAs 51 = .ok (.ireturn, 1) := by decide +kernel
theorem dX12_goesAs_52 : decode cX12_goesAs 52 = .ok (.aload_n 0, 1) := by decide +kernel
theorem dX12_goesAs_53 : decode cX12_goesAs 53 = .ok (.iconst 1, 1) := by decide +kernel
theorem dX12_goesAs_54 : decode cX12_goesAs 54 = .ok (.invokevirtual 373, 3) := by decide +kernel
theorem dX12_goesAs_57 : decode cX12_goesAs 57 = .ok (.iload_n 2, 1) := by decide +kernel
theorem dX12_goesAs_58 : decode cX12_goesAs 58 = .ok (.aload_n 0, 1) := by decide +kernel
theorem dX12_goesAs_59 : decode cX12_goesAs 59 = .ok (.getfield 379, 3) := by decide +kernel
theorem dX12_goesAs_62 : decode cX12_goesAs 62 = .ok (.iadd, 1) := by decide +kernel
theorem dX12_goesAs_63 : decode cX12_goesAs 63 = .ok (.ireturn, 1) := by decide +kernel
theorem dX12_bearsAs_0 : decode cX12_bearsAs 0 = .ok (.iload_n 1, 1) := by decide +kernel
theorem dX12_bearsAs_1 : decode cX12_bearsAs 1 = .ok (.iconst 3, 1) := by decide +kernel
theorem dX12_bearsAs_2 : decode cX12_bearsAs 2 = .ok (.if_icmp .eq 8, 3) := by decide +kernel
theorem dX12_bearsAs_5 : decode cX12_bearsAs 5 = .ok (.iload_n 1, 1) := by decide +kernel
theorem dX12_bearsAs_6 : decode cX12_bearsAs 6 = .ok (.iconst 5, 1) := by decide +kernel
theorem dX12_bearsAs_7 : decode cX12_bearsAs 7 = .ok (.if_icmp .ne 18, 3) := by decide +kernel
theorem dX12_bearsAs_10 : decode cX12_bearsAs 10 = .ok (.aload_n 0, 1) := by decide +kernel
theorem dX12_bearsAs_11 : decode cX12_bearsAs 11 = .ok (.bipush 41, 2) := by decide +kernel
theorem dX12_bearsAs_13 : decode cX12_bearsAs 13 = .ok (.invokevirtual 373, 3) := by decide +kernel
theorem dX12_bearsAs_16 : decode cX12_bearsAs 16 = .ok (.aload_n 0, 1) := by decide +kernel
theorem dX12_bearsAs_17 : decode cX12_bearsAs 17 = .ok (.iconst 2, 1) := by decide +kernel
theorem dX12_bearsAs_18 : decode cX12_bearsAs 18 = .ok (.iload_n 2, 1) := by decide +kernel
theorem dX12_bearsAs_19 : decode cX12_bearsAs 19 = .ok (.iconst 1, 1) := by decide +kernel
theorem dX12_bearsAs_20 : decode cX12_bearsAs 20 = .ok (.iadd, 1) := by decide +kernel
theorem dX12_bearsAs_21 : decode cX12_bearsAs 21 = .ok (.invokevirtual 382, 3) := by decide +kernel
theorem dX12_bearsAs_24 : decode cX12_bearsAs 24 = .ok (.ireturn, 1) := by decide +kernel
theorem dX12_bearsAs_25 : decode cX12_bearsAs 25 = .ok (.iload_n 1, 1) := by decide +kernel
theorem dX12_bearsAs_26 : decode cX12_bearsAs 26 = .ok (.iconst 2, 1) := by decide +kernel
theorem dX12_bearsAs_27 : decode cX12_bearsAs 27 = .ok (.if_icmp .ne 17, 3) := by decide +kernel
theorem dX12_bearsAs_30 : decode cX12_bearsAs 30 = .ok (.aload_n 0, 1) := by decide +kernel
theorem dX12_bearsAs_31 : decode cX12_bearsAs 31 = .ok (.bipush 30, 2) := by decide +kernel
theorem dX12_bearsAs_33 : decode cX12_bearsAs 33 = .ok (.invokevirtual 373, 3) := by decide +kernel
theorem dX12_bearsAs_36 : decode cX12_bearsAs 36 = .ok (.aload_n 0, 1) := by decide +kernel
theorem dX12_bearsAs_37 : decode cX12_bearsAs 37 = .ok (.iconst 0, 1) := by decide +kernel
theorem dX12_bearsAs_38 : decode cX12_bearsAs 38 = .ok (.iload_n 2, 1) := by decide +kernel
theorem dX12_bearsAs_39 : decode cX12_bearsAs 39 = .ok (.invokevirtual 382, 3) := by decide +kernel
theorem dX12_bearsAs_42 : decode cX12_bearsAs 42 = .ok (.ineg, 1) := by decide +kernel
theorem dX12_bearsAs_43 : decode cX12_bearsAs 43 = .ok (.ireturn, 1) := by decide +kernel
theorem dX12_bearsAs_44 : decode cX12_bearsAs 44 = .ok (.iload_n 1, 1) := by decide +kernel
theorem dX12_bearsAs_45 : decode cX12_bearsAs 45 = .ok (.bipush 7, 2) := by decide +kernel
theorem dX12_bearsAs_47 : decode cX12_bearsAs 47 = .ok (.if_icmp .ne 28, 3) := by decide +kernel
theorem dX12_bearsAs_50 : decode cX12_bearsAs 50 = .ok (.aload_n 0, 1) := by decide +kernel
theorem dX12_bearsAs_51 : decode cX12_bearsAs 51 = .ok (.bipush 80, 2) := by decide +kernel
theorem dX12_bearsAs_53 : decode cX12_bearsAs 53 = .ok (.invokevirtual 373, 3) := by decide +kernel
theorem dX12_bearsAs_56 : decode cX12_bearsAs 56 = .ok (.aload_n 0, 1) := by decide +kernel
theorem dX12_bearsAs_57 : decode cX12_bearsAs 57 = .ok (.iconst 4, 1) := by decide +kernel
theorem dX12_bearsAs_58 : decode cX12_bearsAs 58 = .ok (.iload_n 2, 1) := by decide +kernel
theorem dX12_bearsAs_59 : decode cX12_bearsAs 59 = .ok (.invokevirtual 382, 3) := by decide +kernel
theorem dX12_bearsAs_62 : decode cX12_bearsAs 62 = .ok (.istore_n 3, 1) := by decide +kernel
theorem dX12_bearsAs_63 : decode cX12_bearsAs 63 = .ok (.iload_n 3, 1) := by decide +kernel
theorem dX12_bearsAs_64 : decode cX12_bearsAs 64 = .ok (.aload_n 0, 1) := by decide +kernel
theorem dX12_bearsAs_65 : decode cX12_bearsAs 65 = .ok (.aload_n 0, 1) := by decide +kernel
theorem dX12_bearsAs_66 : decode cX12_bearsAs 66 = .ok (.getfield 385, 3) := by decide +kernel
theorem dX12_bearsAs_69 : decode cX12_bearsAs 69 = .ok (.iconst 2, 1) := by decide +kernel
theorem dX12_bearsAs_70 : decode cX12_bearsAs 70 = .ok (.invokevirtual 388, 3) := by decide +kernel
theorem dX12_bearsAs_73 : decode cX12_bearsAs 73 = .ok (.iadd, 1) := by decide +kernel
theorem dX12_bearsAs_74 : decode cX12_bearsAs 74 = .ok (.ireturn, 1) := by decide +kernel
theorem dX12_bearsAs_75 : decode cX12_bearsAs 75 = .ok (.aload_n 0, 1) := by decide +kernel
theorem dX12_bearsAs_76 : decode cX12_bearsAs 76 = .ok (.bipush 10, 2) := by decide +kernel
theorem dX12_bearsAs_78 : decode cX12_bearsAs 78 = .ok (.invokevirtual 373, 3) := by decide +kernel
theorem dX12_bearsAs_81 : decode cX12_bearsAs 81 = .ok (.aload_n 0, 1) := by decide +kernel
theorem dX12_bearsAs_82 : decode cX12_bearsAs 82 = .ok (.aload_n 0, 1) := by decide +kernel
theorem dX12_bearsAs_83 : decode cX12_bearsAs 83 = .ok (.getfield 385, 3) := by decide +kernel
theorem dX12_bearsAs_86 : decode cX12_bearsAs 86 = .ok (.iload_n 2, 1) := by decide +kernel
theorem dX12_bearsAs_87 : decode cX12_bearsAs 87 = .ok (.invokevirtual 376, 3) := by decide +kernel
theorem dX12_bearsAs_90 : decode cX12_bearsAs 90 = .ok (.iconst 2, 1) := by decide +kernel
theorem dX12_bearsAs_91 : decode cX12_bearsAs 91 = .ok (.imul, 1) := by decide +kernel
theorem dX12_bearsAs_92 : decode cX12_bearsAs 92 = .ok (.ireturn, 1) := by decide +kernel
theorem dX12_waitsAs_0 : decode cX12_waitsAs 0 = .ok (.iload_n 1, 1) := by decide +kernel
theorem dX12_waitsAs_1 : decode cX12_waitsAs 1 = .ok (.iconst 3, 1) := by decide +kernel
theorem dX12_waitsAs_2 : decode cX12_waitsAs 2 = .ok (.if_icmp .eq 8, 3) := by decide +kernel
theorem dX12_waitsAs_5 : decode cX12_waitsAs 5 = .ok (.iload_n 1, 1) := by decide +kernel
theorem dX12_waitsAs_6 : decode cX12_waitsAs 6 = .ok (.iconst 5, 1) := by decide +kernel
theorem dX12_waitsAs_7 : decode cX12_waitsAs 7 = .ok (.if_icmp .ne 18, 3) := by decide +kernel
theorem dX12_waitsAs_10 : decode cX12_waitsAs 10 = .ok (.aload_n 0, 1) := by decide +kernel
theorem dX12_waitsAs_11 : decode cX12_waitsAs 11 = .ok (.bipush 40, 2) := by decide +kernel
theorem dX12_waitsAs_13 : decode cX12_waitsAs 13 = .ok (.invokevirtual 373, 3) := by decide +kernel
theorem dX12_waitsAs_16 : decode cX12_waitsAs 16 = .ok (.aload_n 0, 1) := by decide +kernel
theorem dX12_waitsAs_17 : decode cX12_waitsAs 17 = .ok (.iconst 2, 1) := by decide +kernel
theorem dX12_waitsAs_18 : decode cX12_waitsAs 18 = .ok (.iload_n 2, 1) := by decide +kernel
theorem dX12_waitsAs_19 : decode cX12_waitsAs 19 = .ok (.invokevirtual 388, 3) := by decide +kernel
theorem dX12_waitsAs_22 : decode cX12_waitsAs 22 = .ok (.iconst 3, 1) := by decide +kernel
theorem dX12_waitsAs_23 : decode cX12_waitsAs 23 = .ok (.imul, 1) := by decide +kernel
theorem dX12_waitsAs_24 : decode cX12_waitsAs 24 = .ok (.ireturn, 1) := by decide +kernel
theorem dX12_waitsAs_25 : decode cX12_waitsAs 25 = .ok (.iload_n 1, 1) := by decide +kernel
theorem dX12_waitsAs_26 : decode cX12_waitsAs 26 = .ok (.iconst 4, 1) := by decide +kernel
theorem dX12_waitsAs_27 : decode cX12_waitsAs 27 = .ok (.if_icmp .eq 9, 3) := by decide +kernel
theorem dX12_waitsAs_30 : decode cX12_waitsAs 30 = .ok (.iload_n 1, 1) := by decide +kernel
theorem dX12_waitsAs_31 : decode cX12_waitsAs 31 = .ok (.bipush 7, 2) := by decide +kernel
theorem dX12_waitsAs_33 : decode cX12_waitsAs 33 = .ok (.if_icmp .ne 28, 3) := by decide +kernel
theorem dX12_waitsAs_36 : decode cX12_waitsAs 36 = .ok (.aload_n 0, 1) := by decide +kernel
theorem dX12_waitsAs_37 : decode cX12_waitsAs 37 = .ok (.bipush 50, 2) := by decide +kernel
theorem dX12_waitsAs_39 : decode cX12_waitsAs 39 = .ok (.invokevirtual 373, 3) := by decide +kernel
theorem dX12_waitsAs_42 : decode cX12_waitsAs 42 = .ok (.aload_n 0, 1) := by decide +kernel
theorem dX12_waitsAs_43 : decode cX12_waitsAs 43 = .ok (.iconst 1, 1) := by decide +kernel
theorem dX12_waitsAs_44 : decode cX12_waitsAs 44 = .ok (.iload_n 2, 1) := by decide +kernel
theorem dX12_waitsAs_45 : decode cX12_waitsAs 45 = .ok (.invokevirtual 388, 3) := by decide +kernel
theorem dX12_waitsAs_48 : decode cX12_waitsAs 48 = .ok (.istore_n 3, 1) := by decide +kernel
theorem dX12_waitsAs_49 : decode cX12_waitsAs 49 = .ok (.iload_n 3, 1) := by decide +kernel
theorem dX12_waitsAs_50 : decode cX12_waitsAs 50 = .ok (.aload_n 0, 1) := by decide +kernel
theorem dX12_waitsAs_51 : decode cX12_waitsAs 51 = .ok (.aload_n 0, 1) := by decide +kernel
theorem dX12_waitsAs_52 : decode cX12_waitsAs 52 = .ok (.getfield 385, 3) := by decide +kernel
theorem dX12_waitsAs_55 : decode cX12_waitsAs 55 = .ok (.iconst 2, 1) := by decide +kernel
theorem dX12_waitsAs_56 : decode cX12_waitsAs 56 = .ok (.invokevirtual 376, 3) := by decide +kernel
theorem dX12_waitsAs_59 : decode cX12_waitsAs 59 = .ok (.isub, 1) := by decide +kernel
theorem dX12_waitsAs_60 : decode cX12_waitsAs 60 = .ok (.ireturn, 1) := by decide +kernel
theorem dX12_waitsAs_61 : decode cX12_waitsAs 61 = .ok (.aload_n 0, 1) := by decide +kernel
theorem dX12_waitsAs_62 : decode cX12_waitsAs 62 = .ok (.bipush 11, 2) := by decide +kernel
theorem dX12_waitsAs_64 : decode cX12_waitsAs 64 = .ok (.invokevirtual 373, 3) := by decide +kernel
theorem dX12_waitsAs_67 : decode cX12_waitsAs 67 = .ok (.iload_n 2, 1) := by decide +kernel
theorem dX12_waitsAs_68 : decode cX12_waitsAs 68 = .ok (.aload_n 0, 1) := by decide +kernel
theorem dX12_waitsAs_69 : decode cX12_waitsAs 69 = .ok (.getfield 379, 3) := by decide +kernel
theorem dX12_waitsAs_72 : decode cX12_waitsAs 72 = .ok (.ixor, 1) := by decide +kernel
theorem dX12_waitsAs_73 : decode cX12_waitsAs 73 = .ok (.ireturn, 1) := by decide +kernel
theorem dX12_tellsAs_0 : decode cX12_tellsAs 0 = .ok (.iload_n 1, 1) := by decide +kernel
theorem dX12_tellsAs_1 : decode cX12_tellsAs 1 = .ok (.iconst 5, 1) := by decide +kernel
theorem dX12_tellsAs_2 : decode cX12_tellsAs 2 = .ok (.if_icmp .ne 18, 3) := by decide +kernel
theorem dX12_tellsAs_5 : decode cX12_tellsAs 5 = .ok (.aload_n 0, 1) := by decide +kernel
theorem dX12_tellsAs_6 : decode cX12_tellsAs 6 = .ok (.bipush 60, 2) := by decide +kernel
theorem dX12_tellsAs_8 : decode cX12_tellsAs 8 = .ok (.invokevirtual 373, 3) := by decide +kernel
theorem dX12_tellsAs_11 : decode cX12_tellsAs 11 = .ok (.aload_n 0, 1) := by decide +kernel
theorem dX12_tellsAs_12 : decode cX12_tellsAs 12 = .ok (.iconst 3, 1) := by decide +kernel
theorem dX12_tellsAs_13 : decode cX12_tellsAs 13 = .ok (.iload_n 2, 1) := by decide +kernel
theorem dX12_tellsAs_14 : decode cX12_tellsAs 14 = .ok (.invokevirtual 391, 3) := by decide +kernel
theorem dX12_tellsAs_17 : decode cX12_tellsAs 17 = .ok (.iconst 5, 1) := by decide +kernel
theorem dX12_tellsAs_18 : decode cX12_tellsAs 18 = .ok (.ixor, 1) := by decide +kernel
theorem dX12_tellsAs_19 : decode cX12_tellsAs 19 = .ok (.ireturn, 1) := by decide +kernel
theorem dX12_tellsAs_20 : decode cX12_tellsAs 20 = .ok (.iload_n 1, 1) := by decide +kernel
theorem dX12_tellsAs_21 : decode cX12_tellsAs 21 = .ok (.bipush 7, 2) := by decide +kernel
theorem dX12_tellsAs_23 : decode cX12_tellsAs 23 = .ok (.if_icmp .ne 18, 3) := by decide +kernel
theorem dX12_tellsAs_26 : decode cX12_tellsAs 26 = .ok (.aload_n 0, 1) := by decide +kernel
theorem dX12_tellsAs_27 : decode cX12_tellsAs 27 = .ok (.bipush 81, 2) := by decide +kernel
theorem dX12_tellsAs_29 : decode cX12_tellsAs 29 = .ok (.invokevirtual 373, 3) := by decide +kernel
theorem dX12_tellsAs_32 : decode cX12_tellsAs 32 = .ok (.aload_n 0, 1) := by decide +kernel
theorem dX12_tellsAs_33 : decode cX12_tellsAs 33 = .ok (.iconst 4, 1) := by decide +kernel
theorem dX12_tellsAs_34 : decode cX12_tellsAs 34 = .ok (.iload_n 2, 1) := by decide +kernel
theorem dX12_tellsAs_35 : decode cX12_tellsAs 35 = .ok (.invokevirtual 391, 3) := by decide +kernel
theorem dX12_tellsAs_38 : decode cX12_tellsAs 38 = .ok (.iconst 1, 1) := by decide +kernel
theorem dX12_tellsAs_39 : decode cX12_tellsAs 39 = .ok (.isub, 1) := by decide +kernel
theorem dX12_tellsAs_40 : decode cX12_tellsAs 40 = .ok (.ireturn, 1) := by decide +kernel
theorem dX12_tellsAs_41 : decode cX12_tellsAs 41 = .ok (.aload_n 0, 1) := by decide +kernel
theorem dX12_tellsAs_42 : decode cX12_tellsAs 42 = .ok (.iconst 2, 1) := by decide +kernel
theorem dX12_tellsAs_43 : decode cX12_tellsAs 43 = .ok (.invokevirtual 373, 3) := by decide +kernel
theorem dX12_tellsAs_46 : decode cX12_tellsAs 46 = .ok (.aload_n 0, 1) := by decide +kernel
theorem dX12_tellsAs_47 : decode cX12_tellsAs 47 = .ok (.aload_n 0, 1) := by decide +kernel
theorem dX12_tellsAs_48 : decode cX12_tellsAs 48 = .ok (.getfield 385, 3) := by decide +kernel
theorem dX12_tellsAs_51 : decode cX12_tellsAs 51 = .ok (.iload_n 2, 1) := by decide +kernel
theorem dX12_tellsAs_52 : decode cX12_tellsAs 52 = .ok (.invokevirtual 382, 3) := by decide +kernel
theorem dX12_tellsAs_55 : decode cX12_tellsAs 55 = .ok (.istore_n 3, 1) := by decide +kernel
theorem dX12_tellsAs_56 : decode cX12_tellsAs 56 = .ok (.iload_n 3, 1) := by decide +kernel
theorem dX12_tellsAs_57 : decode cX12_tellsAs 57 = .ok (.aload_n 0, 1) := by decide +kernel
theorem dX12_tellsAs_58 : decode cX12_tellsAs 58 = .ok (.aload_n 0, 1) := by decide +kernel
theorem dX12_tellsAs_59 : decode cX12_tellsAs 59 = .ok (.getfield 385, 3) := by decide +kernel
theorem dX12_tellsAs_62 : decode cX12_tellsAs 62 = .ok (.iconst 1, 1) := by decide +kernel
theorem dX12_tellsAs_63 : decode cX12_tellsAs 63 = .ok (.invokevirtual 388, 3) := by decide +kernel
theorem dX12_tellsAs_66 : decode cX12_tellsAs 66 = .ok (.isub, 1) := by decide +kernel
theorem dX12_tellsAs_67 : decode cX12_tellsAs 67 = .ok (.ireturn, 1) := by decide +kernel
theorem dX12_act_0 : decode cX12_act 0 = .ok (.aload_n 0, 1) := by decide +kernel
theorem dX12_act_1 : decode cX12_act 1 = .ok (.iconst 0, 1) := by decide +kernel
theorem dX12_act_2 : decode cX12_act 2 = .ok (.putfield 370, 3) := by decide +kernel
theorem dX12_act_5 : decode cX12_act 5 = .ok (.aload_n 0, 1) := by decide +kernel
theorem dX12_act_6 : decode cX12_act 6 = .ok (.iload_n 1, 1) := by decide +kernel
theorem dX12_act_7 : decode cX12_act 7 = .ok (.invokevirtual 394, 3) := by decide +kernel
theorem dX12_act_10 : decode cX12_act 10 = .ok (.ifCond .ne 5, 3) := by decide +kernel
theorem dX12_act_13 : decode cX12_act 13 = .ok (.iconst 0, 1) := by decide +kernel
theorem dX12_act_14 : decode cX12_act 14 = .ok (.ireturn, 1) := by decide +kernel
theorem dX12_act_15 : decode cX12_act 15 = .ok (.aload_n 0, 1) := by decide +kernel
theorem dX12_act_16 : decode cX12_act 16 = .ok (.aload_n 0, 1) := by decide +kernel
theorem dX12_act_17 : decode cX12_act 17 = .ok (.getfield 62, 3) := by decide +kernel
theorem dX12_act_20 : decode cX12_act 20 = .ok (.iload_n 1, 1) := by decide +kernel
theorem dX12_act_21 : decode cX12_act 21 = .ok (.iaload, 1) := by decide +kernel
theorem dX12_act_22 : decode cX12_act 22 = .ok (.putfield 385, 3) := by decide +kernel
theorem dX12_act_25 : decode cX12_act 25 = .ok (.aload_n 0, 1) := by decide +kernel
theorem dX12_act_26 : decode cX12_act 26 = .ok (.iload_n 1, 1) := by decide +kernel
theorem dX12_act_27 : decode cX12_act 27 = .ok (.putfield 379, 3) := by decide +kernel
theorem dX12_act_30 : decode cX12_act 30 = .ok (.iload_n 2, 1) := by decide +kernel
theorem dX12_act_31 : decode cX12_act 31 = .ok (.tableswitch 69 0 3 #[29, 39, 49, 59], 29) := by decide +kernel
theorem dX12_act_60 : decode cX12_act 60 = .ok (.aload_n 0, 1) := by decide +kernel
theorem dX12_act_61 : decode cX12_act 61 = .ok (.aload_n 0, 1) := by decide +kernel
theorem dX12_act_62 : decode cX12_act 62 = .ok (.getfield 385, 3) := by decide +kernel
theorem dX12_act_65 : decode cX12_act 65 = .ok (.iload_n 3, 1) := by decide +kernel
theorem dX12_act_66 : decode cX12_act 66 = .ok (.invokevirtual 376, 3) := by decide +kernel
theorem dX12_act_69 : decode cX12_act 69 = .ok (.ireturn, 1) := by decide +kernel
theorem dX12_act_70 : decode cX12_act 70 = .ok (.aload_n 0, 1) := by decide +kernel
theorem dX12_act_71 : decode cX12_act 71 = .ok (.aload_n 0, 1) := by decide +kernel
theorem dX12_act_72 : decode cX12_act 72 = .ok (.getfield 385, 3) := by decide +kernel
theorem dX12_act_75 : decode cX12_act 75 = .ok (.iload_n 3, 1) := by decide +kernel
theorem dX12_act_76 : decode cX12_act 76 = .ok (.invokevirtual 382, 3) := by decide +kernel
theorem dX12_act_79 : decode cX12_act 79 = .ok (.ireturn, 1) := by decide +kernel
theorem dX12_act_80 : decode cX12_act 80 = .ok (.aload_n 0, 1) := by decide +kernel
theorem dX12_act_81 : decode cX12_act 81 = .ok (.aload_n 0, 1) := by decide +kernel
theorem dX12_act_82 : decode cX12_act 82 = .ok (.getfield 385, 3) := by decide +kernel
theorem dX12_act_85 : decode cX12_act 85 = .ok (.iload_n 3, 1) := by decide +kernel
theorem dX12_act_86 : decode cX12_act 86 = .ok (.invokevirtual 388, 3) := by decide +kernel
theorem dX12_act_89 : decode cX12_act 89 = .ok (.ireturn, 1) := by decide +kernel
theorem dX12_act_90 : decode cX12_act 90 = .ok (.aload_n 0, 1) := by decide +kernel
theorem dX12_act_91 : decode cX12_act 91 = .ok (.aload_n 0, 1) := by decide +kernel
theorem dX12_act_92 : decode cX12_act 92 = .ok (.getfield 385, 3) := by decide +kernel
theorem dX12_act_95 : decode cX12_act 95 = .ok (.iload_n 3, 1) := by decide +kernel
theorem dX12_act_96 : decode cX12_act 96 = .ok (.invokevirtual 391, 3) := by decide +kernel
theorem dX12_act_99 : decode cX12_act 99 = .ok (.ireturn, 1) := by decide +kernel
theorem dX12_act_100 : decode cX12_act 100 = .ok (.iconst 0, 1) := by decide +kernel
theorem dX12_act_101 : decode cX12_act 101 = .ok (.ireturn, 1) := by decide +kernel

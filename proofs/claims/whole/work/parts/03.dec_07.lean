theorem dX12_trace_0 : decode cX12_trace 0 = .ok (.iload_n 1, 1) := by decide +kernel
theorem dX12_trace_1 : decode cX12_trace 1 = .ok (.ifCond .lt 26, 3) := by decide +kernel
theorem dX12_trace_4 : decode cX12_trace 4 = .ok (.iload_n 1, 1) := by decide +kernel
theorem dX12_trace_5 : decode cX12_trace 5 = .ok (.aload_n 0, 1) := by decide +kernel
theorem dX12_trace_6 : decode cX12_trace 6 = .ok (.getfield 370, 3) := by decide +kernel
theorem dX12_trace_9 : decode cX12_trace 9 = .ok (.if_icmp .ge 18, 3) := by decide +kernel
theorem dX12_trace_12 : decode cX12_trace 12 = .ok (.iload_n 1, 1) := by decide +kernel
theorem dX12_trace_13 : decode cX12_trace 13 = .ok (.bipush 24, 2) := by decide +kernel
theorem dX12_trace_15 : decode cX12_trace 15 = .ok (.if_icmp .ge 12, 3) := by decide +kernel
theorem dX12_trace_18 : decode cX12_trace 18 = .ok (.aload_n 0, 1) := by decide +kernel
theorem dX12_trace_19 : decode cX12_trace 19 = .ok (.getfield 65, 3) := by decide +kernel
theorem dX12_trace_22 : decode cX12_trace 22 = .ok (.iload_n 1, 1) := by decide +kernel
theorem dX12_trace_23 : decode cX12_trace 23 = .ok (.iaload, 1) := by decide +kernel
theorem dX12_trace_24 : decode cX12_trace 24 = .ok (.goto 4, 3) := by decide +kernel
theorem dX12_trace_27 : decode cX12_trace 27 = .ok (.iconst (-1), 1) := by decide +kernel
theorem dX12_trace_28 : decode cX12_trace 28 = .ok (.ireturn, 1) := by decide +kernel
theorem dX12_isShelf_0 : decode cX12_isShelf 0 = .ok (.iload_n 0, 1) := by decide +kernel
theorem dX12_isShelf_1 : decode cX12_isShelf 1 = .ok (.i2l, 1) := by decide +kernel
theorem dX12_isShelf_2 : decode cX12_isShelf 2 = .ok (.lconst 0, 1) := by decide +kernel
theorem dX12_isShelf_3 : decode cX12_isShelf 3 = .ok (.ldc2_w 397, 3) := by decide +kernel
theorem dX12_isShelf_6 : decode cX12_isShelf 6 = .ok (.invokestatic 96, 3) := by decide +kernel
theorem dX12_isShelf_9 : decode cX12_isShelf 9 = .ok (.ireturn, 1) := by decide +kernel
theorem dX12_keep_0 : decode cX12_keep 0 = .ok (.iload_n 1, 1) := by decide +kernel
theorem dX12_keep_1 : decode cX12_keep 1 = .ok (.invokestatic 110, 3) := by decide +kernel
theorem dX12_keep_4 : decode cX12_keep 4 = .ok (.ifCond .eq 16, 3) := by decide +kernel
theorem dX12_keep_7 : decode cX12_keep 7 = .ok (.iload_n 2, 1) := by decide +kernel
theorem dX12_keep_8 : decode cX12_keep 8 = .ok (.iconst (-1), 1) := by decide +kernel
theorem dX12_keep_9 : decode cX12_keep 9 = .ok (.if_icmp .eq 13, 3) := by decide +kernel
theorem dX12_keep_12 : decode cX12_keep 12 = .ok (.aload_n 0, 1) := by decide +kernel
theorem dX12_keep_13 : decode cX12_keep 13 = .ok (.iload_n 2, 1) := by decide +kernel
theorem dX12_keep_14 : decode cX12_keep 14 = .ok (.invokevirtual 394, 3) := by decide +kernel
theorem dX12_keep_17 : decode cX12_keep 17 = .ok (.ifCond .ne 5, 3) := by decide +kernel
theorem dX12_keep_20 : decode cX12_keep 20 = .ok (.iconst (-1), 1) := by decide +kernel
theorem dX12_keep_21 : decode cX12_keep 21 = .ok (.ireturn, 1) := by decide +kernel
theorem dX12_keep_22 : decode cX12_keep 22 = .ok (.aload_n 0, 1) := by decide +kernel
theorem dX12_keep_23 : decode cX12_keep 23 = .ok (.getfield 68, 3) := by decide +kernel
theorem dX12_keep_26 : decode cX12_keep 26 = .ok (.iload_n 1, 1) := by decide +kernel
theorem dX12_keep_27 : decode cX12_keep 27 = .ok (.iload_n 2, 1) := by decide +kernel
theorem dX12_keep_28 : decode cX12_keep 28 = .ok (.iastore, 1) := by decide +kernel
theorem dX12_keep_29 : decode cX12_keep 29 = .ok (.aload_n 0, 1) := by decide +kernel
theorem dX12_keep_30 : decode cX12_keep 30 = .ok (.getfield 71, 3) := by decide +kernel
theorem dX12_keep_33 : decode cX12_keep 33 = .ok (.iload_n 1, 1) := by decide +kernel
theorem dX12_keep_34 : decode cX12_keep 34 = .ok (.iconst 0, 1) := by decide +kernel
theorem dX12_keep_35 : decode cX12_keep 35 = .ok (.iastore, 1) := by decide +kernel
theorem dX12_keep_36 : decode cX12_keep 36 = .ok (.iconst 1, 1) := by decide +kernel
theorem dX12_keep_37 : decode cX12_keep 37 = .ok (.ireturn, 1) := by decide +kernel
theorem dX12_row_0 : decode cX12_row 0 = .ok (.iload_n 1, 1) := by decide +kernel
theorem dX12_row_1 : decode cX12_row 1 = .ok (.invokestatic 110, 3) := by decide +kernel
theorem dX12_row_4 : decode cX12_row 4 = .ok (.ifCond .eq 21, 3) := by decide +kernel
theorem dX12_row_7 : decode cX12_row 7 = .ok (.iload_n 2, 1) := by decide +kernel
theorem dX12_row_8 : decode cX12_row 8 = .ok (.i2l, 1) := by decide +kernel
theorem dX12_row_9 : decode cX12_row 9 = .ok (.lconst 0, 1) := by decide +kernel
theorem dX12_row_10 : decode cX12_row 10 = .ok (.ldc2_w 123, 3) := by decide +kernel
theorem dX12_row_13 : decode cX12_row 13 = .ok (.invokestatic 96, 3) := by decide +kernel
theorem dX12_row_16 : decode cX12_row 16 = .ok (.ifCond .eq 9, 3) := by decide +kernel
theorem dX12_row_19 : decode cX12_row 19 = .ok (.iload_n 3, 1) := by decide +kernel
theorem dX12_row_20 : decode cX12_row 20 = .ok (.bipush 60, 2) := by decide +kernel
theorem dX12_row_22 : decode cX12_row 22 = .ok (.if_icmp .le 5, 3) := by decide +kernel
theorem dX12_row_25 : decode cX12_row 25 = .ok (.iconst (-1), 1) := by decide +kernel
theorem dX12_row_26 : decode cX12_row 26 = .ok (.ireturn, 1) := by decide +kernel
theorem dX12_row_27 : decode cX12_row 27 = .ok (.iload_n 3, 1) := by decide +kernel
theorem dX12_row_28 : decode cX12_row 28 = .ok (.ifCond .ge 6, 3) := by decide +kernel
theorem dX12_row_31 : decode cX12_row 31 = .ok (.bipush (-14), 2) := by decide +kernel
theorem dX12_row_33 : decode cX12_row 33 = .ok (.ireturn, 1) := by decide +kernel
theorem dX12_row_34 : decode cX12_row 34 = .ok (.aload_n 0, 1) := by decide +kernel
theorem dX12_row_35 : decode cX12_row 35 = .ok (.getfield 68, 3) := by decide +kernel
theorem dX12_row_38 : decode cX12_row 38 = .ok (.iload_n 1, 1) := by decide +kernel
theorem dX12_row_39 : decode cX12_row 39 = .ok (.bipush 50, 2) := by decide +kernel
theorem dX12_row_41 : decode cX12_row 41 = .ok (.iload_n 2, 1) := by decide +kernel
theorem dX12_row_42 : decode cX12_row 42 = .ok (.iadd, 1) := by decide +kernel
theorem dX12_row_43 : decode cX12_row 43 = .ok (.iastore, 1) := by decide +kernel
theorem dX12_row_44 : decode cX12_row 44 = .ok (.aload_n 0, 1) := by decide +kernel
theorem dX12_row_45 : decode cX12_row 45 = .ok (.getfield 71, 3) := by decide +kernel
theorem dX12_row_48 : decode cX12_row 48 = .ok (.iload_n 1, 1) := by decide +kernel
theorem dX12_row_49 : decode cX12_row 49 = .ok (.iload_n 3, 1) := by decide +kernel
theorem dX12_row_50 : decode cX12_row 50 = .ok (.iastore, 1) := by decide +kernel
theorem dX12_row_51 : decode cX12_row 51 = .ok (.bipush 60, 2) := by decide +kernel
theorem dX12_row_53 : decode cX12_row 53 = .ok (.iload_n 1, 1) := by decide +kernel
theorem dX12_row_54 : decode cX12_row 54 = .ok (.imul, 1) := by decide +kernel
theorem dX12_row_55 : decode cX12_row 55 = .ok (.istore 4, 2) := by decide +kernel
theorem dX12_row_57 : decode cX12_row 57 = .ok (.iload 4, 2) := by decide +kernel
theorem dX12_row_59 : decode cX12_row 59 = .ok (.bipush 60, 2) := by decide +kernel
theorem dX12_row_61 : decode cX12_row 61 = .ok (.iload_n 1, 1) := by decide +kernel
theorem dX12_row_62 : decode cX12_row 62 = .ok (.imul, 1) := by decide +kernel
theorem dX12_row_63 : decode cX12_row 63 = .ok (.bipush 60, 2) := by decide +kernel
theorem dX12_row_65 : decode cX12_row 65 = .ok (.iadd, 1) := by decide +kernel
theorem dX12_row_66 : decode cX12_row 66 = .ok (.if_icmp .ge 17, 3) := by decide +kernel
theorem dX12_row_69 : decode cX12_row 69 = .ok (.aload_n 0, 1) := by decide +kernel
theorem dX12_row_70 : decode cX12_row 70 = .ok (.getfield 74, 3) := by decide +kernel
theorem dX12_row_73 : decode cX12_row 73 = .ok (.iload 4, 2) := by decide +kernel
theorem dX12_row_75 : decode cX12_row 75 = .ok (.lconst 0, 1) := by decide +kernel
theorem dX12_row_76 : decode cX12_row 76 = .ok (.lastore, 1) := by decide +kernel
theorem dX12_row_77 : decode cX12_row 77 = .ok (.iinc 4 1, 3) := by decide +kernel
theorem dX12_row_80 : decode cX12_row 80 = .ok (.goto (-23), 3) := by decide +kernel
theorem dX12_row_83 : decode cX12_row 83 = .ok (.iconst 1, 1) := by decide +kernel
theorem dX12_row_84 : decode cX12_row 84 = .ok (.ireturn, 1) := by decide +kernel
theorem dX12_refusal_0 : decode cX12_refusal 0 = .ok (.iload_n 1, 1) := by decide +kernel
theorem dX12_refusal_1 : decode cX12_refusal 1 = .ok (.invokestatic 110, 3) := by decide +kernel
theorem dX12_refusal_4 : decode cX12_refusal 4 = .ok (.ifCond .ne 5, 3) := by decide +kernel
theorem dX12_refusal_7 : decode cX12_refusal 7 = .ok (.iconst (-1), 1) := by decide +kernel
theorem dX12_refusal_8 : decode cX12_refusal 8 = .ok (.ireturn, 1) := by decide +kernel
theorem dX12_refusal_9 : decode cX12_refusal 9 = .ok (.aload_n 0, 1) := by decide +kernel
theorem dX12_refusal_10 : decode cX12_refusal 10 = .ok (.getfield 68, 3) := by decide +kernel
theorem dX12_refusal_13 : decode cX12_refusal 13 = .ok (.iload_n 1, 1) := by decide +kernel
theorem dX12_refusal_14 : decode cX12_refusal 14 = .ok (.iaload, 1) := by decide +kernel
theorem dX12_refusal_15 : decode cX12_refusal 15 = .ok (.ifCond .ge 6, 3) := by decide +kernel
theorem dX12_refusal_18 : decode cX12_refusal 18 = .ok (.bipush (-11), 2) := by decide +kernel
theorem dX12_refusal_20 : decode cX12_refusal 20 = .ok (.ireturn, 1) := by decide +kernel
theorem dX12_refusal_21 : decode cX12_refusal 21 = .ok (.aload_n 0, 1) := by decide +kernel
theorem dX12_refusal_22 : decode cX12_refusal 22 = .ok (.getfield 68, 3) := by decide +kernel
theorem dX12_refusal_25 : decode cX12_refusal 25 = .ok (.iload_n 1, 1) := by decide +kernel
theorem dX12_refusal_26 : decode cX12_refusal 26 = .ok (.iaload, 1) := by decide +kernel
theorem dX12_refusal_27 : decode cX12_refusal 27 = .ok (.bipush 50, 2) := by decide +kernel
theorem dX12_refusal_29 : decode cX12_refusal 29 = .ok (.if_icmp .ge 6, 3) := by decide +kernel
theorem dX12_refusal_32 : decode cX12_refusal 32 = .ok (.bipush (-12), 2) := by decide +kernel
theorem dX12_refusal_34 : decode cX12_refusal 34 = .ok (.ireturn, 1) := by decide +kernel
theorem dX12_refusal_35 : decode cX12_refusal 35 = .ok (.iload_n 2, 1) := by decide +kernel
theorem dX12_refusal_36 : decode cX12_refusal 36 = .ok (.ifCond .lt 17, 3) := by decide +kernel
theorem dX12_refusal_39 : decode cX12_refusal 39 = .ok (.iload_n 2, 1) := by decide +kernel
theorem dX12_refusal_40 : decode cX12_refusal 40 = .ok (.aload_n 0, 1) := by decide +kernel
theorem dX12_refusal_41 : decode cX12_refusal 41 = .ok (.getfield 71, 3) := by decide +kernel
theorem dX12_refusal_44 : decode cX12_refusal 44 = .ok (.iload_n 1, 1) := by decide +kernel
theorem dX12_refusal_45 : decode cX12_refusal 45 = .ok (.iaload, 1) := by decide +kernel
theorem dX12_refusal_46 : decode cX12_refusal 46 = .ok (.if_icmp .ge 7, 3) := by decide +kernel
theorem dX12_refusal_49 : decode cX12_refusal 49 = .ok (.iconst 0, 1) := by decide +kernel
theorem dX12_refusal_50 : decode cX12_refusal 50 = .ok (.goto 5, 3) := by decide +kernel
theorem dX12_refusal_53 : decode cX12_refusal 53 = .ok (.bipush (-13), 2) := by decide +kernel
theorem dX12_refusal_55 : decode cX12_refusal 55 = .ok (.ireturn, 1) := by decide +kernel
theorem dX12_asSort_0 : decode cX12_asSort 0 = .ok (.iload_n 0, 1) := by decide +kernel
theorem dX12_asSort_1 : decode cX12_asSort 1 = .ok (.ifCond .ne 10, 3) := by decide +kernel
theorem dX12_asSort_4 : decode cX12_asSort 4 = .ok (.lload_n 1, 1) := by decide +kernel
theorem dX12_asSort_5 : decode cX12_asSort 5 = .ok (.l2i, 1) := by decide +kernel
theorem dX12_asSort_6 : decode cX12_asSort 6 = .ok (.i2b, 1) := by decide +kernel
theorem dX12_asSort_7 : decode cX12_asSort 7 = .ok (.i2l, 1) := by decide +kernel
theorem dX12_asSort_8 : decode cX12_asSort 8 = .ok (.goto 46, 3) := by decide +kernel
theorem dX12_asSort_11 : decode cX12_asSort 11 = .ok (.iload_n 0, 1) := by decide +kernel
theorem dX12_asSort_12 : decode cX12_asSort 12 = .ok (.iconst 1, 1) := by decide +kernel
theorem dX12_asSort_13 : decode cX12_asSort 13 = .ok (.if_icmp .ne 10, 3) := by decide +kernel
theorem dX12_asSort_16 : decode cX12_asSort 16 = .ok (.lload_n 1, 1) := by decide +kernel
theorem dX12_asSort_17 : decode cX12_asSort 17 = .ok (.l2i, 1) := by decide +kernel
theorem dX12_asSort_18 : decode cX12_asSort 18 = .ok (.i2s, 1) := by decide +kernel
theorem dX12_asSort_19 : decode cX12_asSort 19 = .ok (.i2l, 1) := by decide +kernel
theorem dX12_asSort_20 : decode cX12_asSort 20 = .ok (.goto 34, 3) := by decide +kernel
theorem dX12_asSort_23 : decode cX12_asSort 23 = .ok (.iload_n 0, 1) := by decide +kernel
theorem dX12_asSort_24 : decode cX12_asSort 24 = .ok (.iconst 2, 1) := by decide +kernel
theorem dX12_asSort_25 : decode cX12_asSort 25 = .ok (.if_icmp .ne 9, 3) := by decide +kernel
theorem dX12_asSort_28 : decode cX12_asSort 28 = .ok (.lload_n 1, 1) := by decide +kernel
theorem dX12_asSort_29 : decode cX12_asSort 29 = .ok (.l2i, 1) := by decide +kernel
theorem dX12_asSort_30 : decode cX12_asSort 30 = .ok (.i2l, 1) := by decide +kernel
theorem dX12_asSort_31 : decode cX12_asSort 31 = .ok (.goto 23, 3) := by decide +kernel
theorem dX12_asSort_34 : decode cX12_asSort 34 = .ok (.iload_n 0, 1) := by decide +kernel
theorem dX12_asSort_35 : decode cX12_asSort 35 = .ok (.iconst 4, 1) := by decide +kernel
theorem dX12_asSort_36 : decode cX12_asSort 36 = .ok (.if_icmp .ne 17, 3) := by decide +kernel
theorem dX12_asSort_39 : decode cX12_asSort 39 = .ok (.lload_n 1, 1) := by decide +kernel
theorem dX12_asSort_40 : decode cX12_asSort 40 = .ok (.lconst 0, 1) := by decide +kernel
theorem dX12_asSort_41 : decode cX12_asSort 41 = .ok (.lcmp, 1) := by decide +kernel
theorem dX12_asSort_42 : decode cX12_asSort 42 = .ok (.ifCond .eq 7, 3) := by decide +kernel
theorem dX12_asSort_45 : decode cX12_asSort 45 = .ok (.lconst 1, 1) := by decide +kernel
theorem dX12_asSort_46 : decode cX12_asSort 46 = .ok (.goto 8, 3) := by decide +kernel
theorem dX12_asSort_49 : decode cX12_asSort 49 = .ok (.lconst 0, 1) := by decide +kernel
theorem dX12_asSort_50 : decode cX12_asSort 50 = .ok (.goto 4, 3) := by decide +kernel
theorem dX12_asSort_53 : decode cX12_asSort 53 = .ok (.lload_n 1, 1) := by decide +kernel
theorem dX12_asSort_54 : decode cX12_asSort 54 = .ok (.lreturn, 1) := by decide +kernel
theorem dX12_put_0 : decode cX12_put 0 = .ok (.aload_n 0, 1) := by decide +kernel
theorem dX12_put_1 : decode cX12_put 1 = .ok (.iload_n 1, 1) := by decide +kernel
theorem dX12_put_2 : decode cX12_put 2 = .ok (.iload_n 2, 1) := by decide +kernel
theorem dX12_put_3 : decode cX12_put 3 = .ok (.invokevirtual 399, 3) := by decide +kernel
theorem dX12_put_6 : decode cX12_put 6 = .ok (.istore 5, 2) := by decide +kernel
theorem dX12_put_8 : decode cX12_put 8 = .ok (.iload 5, 2) := by decide +kernel
theorem dX12_put_10 : decode cX12_put 10 = .ok (.ifCond .ne 27, 3) := by decide +kernel
theorem dX12_put_13 : decode cX12_put 13 = .ok (.aload_n 0, 1) := by decide +kernel
theorem dX12_put_14 : decode cX12_put 14 = .ok (.getfield 74, 3) := by decide +kernel
theorem dX12_put_17 : decode cX12_put 17 = .ok (.bipush 60, 2) := by decide +kernel
theorem dX12_put_19 : decode cX12_put 19 = .ok (.iload_n 1, 1) := by decide +kernel
theorem dX12_put_20 : decode cX12_put 20 = .ok (.imul, 1) := by decide +kernel
theorem dX12_put_21 : decode cX12_put 21 = .ok (.iload_n 2, 1) := by decide +kernel
theorem dX12_put_22 : decode cX12_put 22 = .ok (.iadd, 1) := by decide +kernel
theorem dX12_put_23 : decode cX12_put 23 = .ok (.aload_n 0, 1) := by decide +kernel
theorem dX12_put_24 : decode cX12_put 24 = .ok (.getfield 68, 3) := by decide +kernel
theorem dX12_put_27 : decode cX12_put 27 = .ok (.iload_n 1, 1) := by decide +kernel
theorem dX12_put_28 : decode cX12_put 28 = .ok (.iaload, 1) := by decide +kernel
theorem dX12_put_29 : decode cX12_put 29 = .ok (.bipush 50, 2) := by decide +kernel
theorem dX12_put_31 : decode cX12_put 31 = .ok (.isub, 1) := by decide +kernel
theorem dX12_put_32 : decode cX12_put 32 = .ok (.lload_n 3, 1) := by decide +kernel
theorem dX12_put_33 : decode cX12_put 33 = .ok (.invokestatic 402, 3) := by decide +kernel
theorem dX12_put_36 : decode cX12_put 36 = .ok (.lastore, 1) := by decide +kernel
theorem dX12_put_37 : decode cX12_put 37 = .ok (.iload 5, 2) := by decide +kernel
theorem dX12_put_39 : decode cX12_put 39 = .ok (.ifCond .ne 7, 3) := by decide +kernel
theorem dX12_put_42 : decode cX12_put 42 = .ok (.iconst 1, 1) := by decide +kernel
theorem dX12_put_43 : decode cX12_put 43 = .ok (.goto 5, 3) := by decide +kernel
theorem dX12_put_46 : decode cX12_put 46 = .ok (.iload 5, 2) := by decide +kernel
theorem dX12_put_48 : decode cX12_put 48 = .ok (.ireturn, 1) := by decide +kernel
theorem dX12_element_0 : decode cX12_element 0 = .ok (.aload_n 0, 1) := by decide +kernel
theorem dX12_element_1 : decode cX12_element 1 = .ok (.iload_n 1, 1) := by decide +kernel
theorem dX12_element_2 : decode cX12_element 2 = .ok (.iload_n 2, 1) := by decide +kernel
theorem dX12_element_3 : decode cX12_element 3 = .ok (.invokevirtual 399, 3) := by decide +kernel
theorem dX12_element_6 : decode cX12_element 6 = .ok (.ifCond .eq 9, 3) := by decide +kernel
theorem dX12_element_9 : decode cX12_element 9 = .ok (.ldc2_w 316, 3) := by decide +kernel
theorem dX12_element_12 : decode cX12_element 12 = .ok (.goto 14, 3) := by decide +kernel
theorem dX12_element_15 : decode cX12_element 15 = .ok (.aload_n 0, 1) := by decide +kernel
theorem dX12_element_16 : decode cX12_element 16 = .ok (.getfield 74, 3) := by decide +kernel
theorem dX12_element_19 : decode cX12_element 19 = .ok (.bipush 60, 2) := by decide +kernel
theorem dX12_element_21 : decode cX12_element 21 = .ok (.iload_n 1, 1) := by decide +kernel
theorem dX12_element_22 : decode cX12_element 22 = .ok (.imul, 1) := by decide +kernel
theorem dX12_element_23 : decode cX12_element 23 = .ok (.iload_n 2, 1) := by decide +kernel
theorem dX12_element_24 : decode cX12_element 24 = .ok (.iadd, 1) := by decide +kernel
theorem dX12_element_25 : decode cX12_element 25 = .ok (.laload, 1) := by decide +kernel
theorem dX12_element_26 : decode cX12_element 26 = .ok (.lreturn, 1) := by decide +kernel
theorem dX12_shift_0 : decode cX12_shift 0 = .ok (.iload_n 1, 1) := by decide +kernel
theorem dX12_shift_1 : decode cX12_shift 1 = .ok (.invokestatic 110, 3) := by decide +kernel
theorem dX12_shift_4 : decode cX12_shift 4 = .ok (.ifCond .eq 10, 3) := by decide +kernel
theorem dX12_shift_7 : decode cX12_shift 7 = .ok (.iload_n 3, 1) := by decide +kernel
theorem dX12_shift_8 : decode cX12_shift 8 = .ok (.invokestatic 110, 3) := by decide +kernel
theorem dX12_shift_11 : decode cX12_shift 11 = .ok (.ifCond .ne 5, 3) := by decide +kernel
theorem dX12_shift_14 : decode cX12_shift 14 = .ok (.iconst (-1), 1) := by decide +kernel
theorem dX12_shift_15 : decode cX12_shift 15 = .ok (.ireturn, 1) := by decide +kernel
theorem dX12_shift_16 : decode cX12_shift 16 = .ok (.aload_n 0, 1) := by decide +kernel
theorem dX12_shift_17 : decode cX12_shift 17 = .ok (.getfield 68, 3) := by decide +kernel
theorem dX12_shift_20 : decode cX12_shift 20 = .ok (.iload_n 1, 1) := by decide +kernel
theorem dX12_shift_21 : decode cX12_shift 21 = .ok (.iaload, 1) := by decide +kernel
theorem dX12_shift_22 : decode cX12_shift 22 = .ok (.ifCond .lt 12, 3) := by decide +kernel
theorem dX12_shift_25 : decode cX12_shift 25 = .ok (.aload_n 0, 1) := by decide +kernel
theorem dX12_shift_26 : decode cX12_shift 26 = .ok (.getfield 68, 3) := by decide +kernel
theorem dX12_shift_29 : decode cX12_shift 29 = .ok (.iload_n 3, 1) := by decide +kernel
theorem dX12_shift_30 : decode cX12_shift 30 = .ok (.iaload, 1) := by decide +kernel
theorem dX12_shift_31 : decode cX12_shift 31 = .ok (.ifCond .ge 6, 3) := by decide +kernel
theorem dX12_shift_34 : decode cX12_shift 34 = .ok (.bipush (-11), 2) := by decide +kernel
theorem dX12_shift_36 : decode cX12_shift 36 = .ok (.ireturn, 1) := by decide +kernel
theorem dX12_shift_37 : decode cX12_shift 37 = .ok (.aload_n 0, 1) := by decide +kernel
theorem dX12_shift_38 : decode cX12_shift 38 = .ok (.getfield 68, 3) := by decide +kernel
theorem dX12_shift_41 : decode cX12_shift 41 = .ok (.iload_n 1, 1) := by decide +kernel
theorem dX12_shift_42 : decode cX12_shift 42 = .ok (.iaload, 1) := by decide +kernel
theorem dX12_shift_43 : decode cX12_shift 43 = .ok (.bipush 50, 2) := by decide +kernel
theorem dX12_shift_45 : decode cX12_shift 45 = .ok (.if_icmp .lt 18, 3) := by decide +kernel
theorem dX12_shift_48 : decode cX12_shift 48 = .ok (.aload_n 0, 1) := by decide +kernel
theorem dX12_shift_49 : decode cX12_shift 49 = .ok (.getfield 68, 3) := by decide +kernel
theorem dX12_shift_52 : decode cX12_shift 52 = .ok (.iload_n 1, 1) := by decide +kernel
theorem dX12_shift_53 : decode cX12_shift 53 = .ok (.iaload, 1) := by decide +kernel
theorem dX12_shift_54 : decode cX12_shift 54 = .ok (.aload_n 0, 1) := by decide +kernel
theorem dX12_shift_55 : decode cX12_shift 55 = .ok (.getfield 68, 3) := by decide +kernel
theorem dX12_shift_58 : decode cX12_shift 58 = .ok (.iload_n 3, 1) := by decide +kernel
theorem dX12_shift_59 : decode cX12_shift 59 = .ok (.iaload, 1) := by decide +kernel
theorem dX12_shift_60 : decode cX12_shift 60 = .ok (.if_icmp .eq 6, 3) := by decide +kernel
theorem dX12_shift_63 : decode cX12_shift 63 = .ok (.bipush (-12), 2) := by decide +kernel
theorem dX12_shift_65 : decode cX12_shift 65 = .ok (.ireturn, 1) := by decide +kernel
theorem dX12_shift_66 : decode cX12_shift 66 = .ok (.iload 5, 2) := by decide +kernel
theorem dX12_shift_68 : decode cX12_shift 68 = .ok (.ifCond .lt 39, 3) := by decide +kernel
theorem dX12_shift_71 : decode cX12_shift 71 = .ok (.iload_n 2, 1) := by decide +kernel
theorem dX12_shift_72 : decode cX12_shift 72 = .ok (.ifCond .lt 35, 3) := by decide +kernel
theorem dX12_shift_75 : decode cX12_shift 75 = .ok (.iload 4, 2) := by decide +kernel
theorem dX12_shift_77 : decode cX12_shift 77 = .ok (.ifCond .lt 30, 3) := by decide +kernel
theorem dX12_shift_80 : decode cX12_shift 80 = .ok (.iload_n 2, 1) := by decide +kernel
theorem dX12_shift_81 : decode cX12_shift 81 = .ok (.aload_n 0, 1) := by decide +kernel
theorem dX12_shift_82 : decode cX12_shift 82 = .ok (.getfield 71, 3) := by decide +kernel
theorem dX12_shift_85 : decode cX12_shift 85 = .ok (.iload_n 1, 1) := by decide +kernel
theorem dX12_shift_86 : decode cX12_shift 86 = .ok (.iaload, 1) := by decide +kernel
theorem dX12_shift_87 : decode cX12_shift 87 = .ok (.iload 5, 2) := by decide +kernel
theorem dX12_shift_89 : decode cX12_shift 89 = .ok (.isub, 1) := by decide +kernel
theorem dX12_shift_90 : decode cX12_shift 90 = .ok (.if_icmp .gt 17, 3) := by decide +kernel
theorem dX12_shift_93 : decode cX12_shift 93 = .ok (.iload 4, 2) := by decide +kernel
theorem dX12_shift_95 : decode cX12_shift 95 = .ok (.aload_n 0, 1) := by decide +kernel
theorem dX12_shift_96 : decode cX12_shift 96 = .ok (.getfield 71, 3) := by decide +kernel
theorem dX12_shift_99 : decode cX12_shift 99 = .ok (.iload_n 3, 1) := by decide +kernel
theorem dX12_shift_100 : decode cX12_shift 100 = .ok (.iaload, 1) := by decide +kernel
theorem dX12_shift_101 : decode cX12_shift 101 = .ok (.iload 5, 2) := by decide +kernel
theorem dX12_shift_103 : decode cX12_shift 103 = .ok (.isub, 1) := by decide +kernel
theorem dX12_shift_104 : decode cX12_shift 104 = .ok (.if_icmp .le 6, 3) := by decide +kernel
theorem dX12_shift_107 : decode cX12_shift 107 = .ok (.bipush (-13), 2) := by decide +kernel
theorem dX12_shift_109 : decode cX12_shift 109 = .ok (.ireturn, 1) := by decide +kernel
theorem dX12_shift_110 : decode cX12_shift 110 = .ok (.iconst 0, 1) := by decide +kernel
theorem dX12_shift_111 : decode cX12_shift 111 = .ok (.istore 6, 2) := by decide +kernel
theorem dX12_shift_113 : decode cX12_shift 113 = .ok (.iload 6, 2) := by decide +kernel
theorem dX12_shift_115 : decode cX12_shift 115 = .ok (.iload 5, 2) := by decide +kernel
theorem dX12_shift_117 : decode cX12_shift 117 = .ok (.if_icmp .ge 30, 3) := by decide +kernel
theorem dX12_shift_120 : decode cX12_shift 120 = .ok (.aload_n 0, 1) := by decide +kernel
theorem dX12_shift_121 : decode cX12_shift 121 = .ok (.getfield 78, 3) := by decide +kernel
theorem dX12_shift_124 : decode cX12_shift 124 = .ok (.iload 6, 2) := by decide +kernel
theorem dX12_shift_126 : decode cX12_shift 126 = .ok (.aload_n 0, 1) := by decide +kernel
theorem dX12_shift_127 : decode cX12_shift 127 = .ok (.getfield 74, 3) := by decide +kernel
theorem dX12_shift_130 : decode cX12_shift 130 = .ok (.bipush 60, 2) := by decide +kernel
theorem dX12_shift_132 : decode cX12_shift 132 = .ok (.iload_n 1, 1) := by decide +kernel
theorem dX12_shift_133 : decode cX12_shift 133 = .ok (.imul, 1) := by decide +kernel
theorem dX12_shift_134 : decode cX12_shift 134 = .ok (.iload_n 2, 1) := by decide +kernel
theorem dX12_shift_135 : decode cX12_shift 135 = .ok (.iadd, 1) := by decide +kernel
theorem dX12_shift_136 : decode cX12_shift 136 = .ok (.iload 6, 2) := by decide +kernel
theorem dX12_shift_138 : decode cX12_shift 138 = .ok (.iadd, 1) := by decide +kernel
theorem dX12_shift_139 : decode cX12_shift 139 = .ok (.laload, 1) := by decide +kernel
theorem dX12_shift_140 : decode cX12_shift 140 = .ok (.lastore, 1) := by decide +kernel
theorem dX12_shift_141 : decode cX12_shift 141 = .ok (.iinc 6 1, 3) := by decide +kernel
theorem dX12_shift_144 : decode cX12_shift 144 = .ok (.goto (-31), 3) := by decide +kernel
theorem dX12_shift_147 : decode cX12_shift 147 = .ok (.iconst 0, 1) := by decide +kernel
theorem dX12_shift_148 : decode cX12_shift 148 = .ok (.istore 6, 2) := by decide +kernel
theorem dX12_shift_150 : decode cX12_shift 150 = .ok (.iload 6, 2) := by decide +kernel
theorem dX12_shift_152 : decode cX12_shift 152 = .ok (.iload 5, 2) := by decide +kernel
theorem dX12_shift_154 : decode cX12_shift 154 = .ok (.if_icmp .ge 31, 3) := by decide +kernel
theorem dX12_shift_157 : decode cX12_shift 157 = .ok (.aload_n 0, 1) := by decide +kernel
theorem dX12_shift_158 : decode cX12_shift 158 = .ok (.getfield 74, 3) := by decide +kernel
theorem dX12_shift_161 : decode cX12_shift 161 = .ok (.bipush 60, 2) := by decide +kernel
theorem dX12_shift_163 : decode cX12_shift 163 = .ok (.iload_n 3, 1) := by decide +kernel
theorem dX12_shift_164 : decode cX12_shift 164 = .ok (.imul, 1) := by decide +kernel
theorem dX12_shift_165 : decode cX12_shift 165 = .ok (.iload 4, 2) := by decide +kernel
theorem dX12_shift_167 : decode cX12_shift 167 = .ok (.iadd, 1) := by decide +kernel
theorem dX12_shift_168 : decode cX12_shift 168 = .ok (.iload 6, 2) := by decide +kernel
theorem dX12_shift_170 : decode cX12_shift 170 = .ok (.iadd, 1) := by decide +kernel
theorem dX12_shift_171 : decode cX12_shift 171 = .ok (.aload_n 0, 1) := by decide +kernel
theorem dX12_shift_172 : decode cX12_shift 172 = .ok (.getfield 78, 3) := by decide +kernel
theorem dX12_shift_175 : decode cX12_shift 175 = .ok (.iload 6, 2) := by decide +kernel
theorem dX12_shift_177 : decode cX12_shift 177 = .ok (.laload, 1) := by decide +kernel
theorem dX12_shift_178 : decode cX12_shift 178 = .ok (.lastore, 1) := by decide +kernel
theorem dX12_shift_179 : decode cX12_shift 179 = .ok (.iinc 6 1, 3) := by decide +kernel
theorem dX12_shift_182 : decode cX12_shift 182 = .ok (.goto (-32), 3) := by decide +kernel
theorem dX12_shift_185 : decode cX12_shift 185 = .ok (.iload 5, 2) := by decide +kernel
theorem dX12_shift_187 : decode cX12_shift 187 = .ok (.ireturn, 1) := by decide +kernel
theorem dX12_taken_0 : decode cX12_taken 0 = .ok (.iload_n 1, 1) := by decide +kernel
theorem dX12_taken_1 : decode cX12_taken 1 = .ok (.invokestatic 110, 3) := by decide +kernel
theorem dX12_taken_4 : decode cX12_taken 4 = .ok (.ifCond .eq 15, 3) := by decide +kernel
theorem dX12_taken_7 : decode cX12_taken 7 = .ok (.iload_n 2, 1) := by decide +kernel
theorem dX12_taken_8 : decode cX12_taken 8 = .ok (.i2l, 1) := by decide +kernel
theorem dX12_taken_9 : decode cX12_taken 9 = .ok (.lconst 0, 1) := by decide +kernel
theorem dX12_taken_10 : decode cX12_taken 10 = .ok (.ldc2_w 114, 3) := by decide +kernel
theorem dX12_taken_13 : decode cX12_taken 13 = .ok (.invokestatic 96, 3) := by decide +kernel
theorem dX12_taken_16 : decode cX12_taken 16 = .ok (.ifCond .ne 5, 3) := by decide +kernel
theorem dX12_taken_19 : decode cX12_taken 19 = .ok (.iconst (-1), 1) := by decide +kernel
theorem dX12_taken_20 : decode cX12_taken 20 = .ok (.ireturn, 1) := by decide +kernel
theorem dX12_taken_21 : decode cX12_taken 21 = .ok (.aload_n 0, 1) := by decide +kernel
theorem dX12_taken_22 : decode cX12_taken 22 = .ok (.getfield 68, 3) := by decide +kernel
theorem dX12_taken_25 : decode cX12_taken 25 = .ok (.iload_n 1, 1) := by decide +kernel
theorem dX12_taken_26 : decode cX12_taken 26 = .ok (.iaload, 1) := by decide +kernel
theorem dX12_taken_27 : decode cX12_taken 27 = .ok (.ifCond .ge 6, 3) := by decide +kernel
theorem dX12_taken_30 : decode cX12_taken 30 = .ok (.bipush (-11), 2) := by decide +kernel
theorem dX12_taken_32 : decode cX12_taken 32 = .ok (.ireturn, 1) := by decide +kernel
theorem dX12_taken_33 : decode cX12_taken 33 = .ok (.aload_n 0, 1) := by decide +kernel
theorem dX12_taken_34 : decode cX12_taken 34 = .ok (.getfield 68, 3) := by decide +kernel
theorem dX12_taken_37 : decode cX12_taken 37 = .ok (.iload_n 1, 1) := by decide +kernel
theorem dX12_taken_38 : decode cX12_taken 38 = .ok (.iaload, 1) := by decide +kernel
theorem dX12_taken_39 : decode cX12_taken 39 = .ok (.bipush 50, 2) := by decide +kernel
theorem dX12_taken_41 : decode cX12_taken 41 = .ok (.if_icmp .lt 6, 3) := by decide +kernel
theorem dX12_taken_44 : decode cX12_taken 44 = .ok (.bipush (-12), 2) := by decide +kernel
theorem dX12_taken_46 : decode cX12_taken 46 = .ok (.ireturn, 1) := by decide +kernel
theorem dX12_taken_47 : decode cX12_taken 47 = .ok (.aload_n 0, 1) := by decide +kernel
theorem dX12_taken_48 : decode cX12_taken 48 = .ok (.aload_n 0, 1) := by decide +kernel
theorem dX12_taken_49 : decode cX12_taken 49 = .ok (.getfield 68, 3) := by decide +kernel
theorem dX12_taken_52 : decode cX12_taken 52 = .ok (.iload_n 1, 1) := by decide +kernel
theorem dX12_taken_53 : decode cX12_taken 53 = .ok (.iaload, 1) := by decide +kernel
theorem dX12_taken_54 : decode cX12_taken 54 = .ok (.invokevirtual 406, 3) := by decide +kernel
theorem dX12_taken_57 : decode cX12_taken 57 = .ok (.istore_n 3, 1) := by decide +kernel
theorem dX12_taken_58 : decode cX12_taken 58 = .ok (.iload_n 3, 1) := by decide +kernel
theorem dX12_taken_59 : decode cX12_taken 59 = .ok (.iload_n 2, 1) := by decide +kernel
theorem dX12_taken_60 : decode cX12_taken 60 = .ok (.if_icmp .eq 15, 3) := by decide +kernel
theorem dX12_taken_63 : decode cX12_taken 63 = .ok (.iload_n 3, 1) := by decide +kernel
theorem dX12_taken_64 : decode cX12_taken 64 = .ok (.ifCond .le 11, 3) := by decide +kernel
theorem dX12_taken_67 : decode cX12_taken 67 = .ok (.iload_n 3, 1) := by decide +kernel
theorem dX12_taken_68 : decode cX12_taken 68 = .ok (.invokestatic 409, 3) := by decide +kernel
theorem dX12_taken_71 : decode cX12_taken 71 = .ok (.istore_n 3, 1) := by decide +kernel
theorem dX12_taken_72 : decode cX12_taken 72 = .ok (.goto (-14), 3) := by decide +kernel
theorem dX12_taken_75 : decode cX12_taken 75 = .ok (.iload_n 3, 1) := by decide +kernel
theorem dX12_taken_76 : decode cX12_taken 76 = .ok (.iload_n 2, 1) := by decide +kernel
theorem dX12_taken_77 : decode cX12_taken 77 = .ok (.if_icmp .ne 16, 3) := by decide +kernel
theorem dX12_taken_80 : decode cX12_taken 80 = .ok (.aload_n 0, 1) := by decide +kernel
theorem dX12_taken_81 : decode cX12_taken 81 = .ok (.aload_n 0, 1) := by decide +kernel
theorem dX12_taken_82 : decode cX12_taken 82 = .ok (.getfield 68, 3) := by decide +kernel
theorem dX12_taken_85 : decode cX12_taken 85 = .ok (.iload_n 1, 1) := by decide +kernel
theorem dX12_taken_86 : decode cX12_taken 86 = .ok (.iaload, 1) := by decide +kernel
theorem dX12_taken_87 : decode cX12_taken 87 = .ok (.invokevirtual 406, 3) := by decide +kernel
theorem dX12_taken_90 : decode cX12_taken 90 = .ok (.goto 5, 3) := by decide +kernel
theorem dX12_taken_93 : decode cX12_taken 93 = .ok (.bipush (-12), 2) := by decide +kernel
theorem dX12_taken_95 : decode cX12_taken 95 = .ok (.ireturn, 1) := by decide +kernel
theorem dX12_count_0 : decode cX12_count 0 = .ok (.iload_n 1, 1) := by decide +kernel
theorem dX12_count_1 : decode cX12_count 1 = .ok (.tableswitch 69 0 5 #[39, 44, 49, 54, 59, 64], 39) := by decide +kernel
theorem dX12_count_40 : decode cX12_count 40 = .ok (.aload_n 0, 1) := by decide +kernel
theorem dX12_count_41 : decode cX12_count 41 = .ok (.getfield 93, 3) := by decide +kernel
theorem dX12_count_44 : decode cX12_count 44 = .ok (.ireturn, 1) := by decide +kernel
theorem dX12_count_45 : decode cX12_count 45 = .ok (.aload_n 0, 1) := by decide +kernel
theorem dX12_count_46 : decode cX12_count 46 = .ok (.invokevirtual 412, 3) := by decide +kernel
theorem dX12_count_49 : decode cX12_count 49 = .ok (.ireturn, 1) := by decide +kernel
theorem dX12_count_50 : decode cX12_count 50 = .ok (.aload_n 0, 1) := by decide +kernel
theorem dX12_count_51 : decode cX12_count 51 = .ok (.getfield 158, 3) := by decide +kernel
theorem dX12_count_54 : decode cX12_count 54 = .ok (.ireturn, 1) := by decide +kernel
theorem dX12_count_55 : decode cX12_count 55 = .ok (.aload_n 0, 1) := by decide +kernel
theorem dX12_count_56 : decode cX12_count 56 = .ok (.getfield 87, 3) := by decide +kernel
theorem dX12_count_59 : decode cX12_count 59 = .ok (.ireturn, 1) := by decide +kernel
theorem dX12_count_60 : decode cX12_count 60 = .ok (.aload_n 0, 1) := by decide +kernel
theorem dX12_count_61 : decode cX12_count 61 = .ok (.getfield 367, 3) := by decide +kernel
theorem dX12_count_64 : decode cX12_count 64 = .ok (.ireturn, 1) := by decide +kernel
theorem dX12_count_65 : decode cX12_count 65 = .ok (.aload_n 0, 1) := by decide +kernel
theorem dX12_count_66 : decode cX12_count 66 = .ok (.getfield 370, 3) := by decide +kernel
theorem dX12_count_69 : decode cX12_count 69 = .ok (.ireturn, 1) := by decide +kernel
theorem dX12_count_70 : decode cX12_count 70 = .ok (.iconst (-1), 1) := by decide +kernel
theorem dX12_count_71 : decode cX12_count 71 = .ok (.ireturn, 1) := by decide +kernel
theorem dJ9_max_7cf53_0 : decode cJ9_max_7cf53 0 = .ok (.iload_n 0, 1) := by decide +kernel
theorem dJ9_max_7cf53_1 : decode cJ9_max_7cf53 1 = .ok (.iload_n 1, 1) := by decide +kernel
theorem dJ9_max_7cf53_2 : decode cJ9_max_7cf53 2 = .ok (.if_icmp .lt 7, 3) := by decide +kernel
theorem dJ9_max_7cf53_5 : decode cJ9_max_7cf53 5 = .ok (.iload_n 0, 1) := by decide +kernel
theorem dJ9_max_7cf53_6 : decode cJ9_max_7cf53 6 = .ok (.goto 4, 3) := by decide +kernel
theorem dJ9_max_7cf53_9 : decode cJ9_max_7cf53 9 = .ok (.iload_n 1, 1) := by decide +kernel
theorem dJ9_max_7cf53_10 : decode cJ9_max_7cf53 10 = .ok (.ireturn, 1) := by decide +kernel
theorem dJ9_min_7cf53_0 : decode cJ9_min_7cf53 0 = .ok (.iload_n 0, 1) := by decide +kernel
theorem dJ9_min_7cf53_1 : decode cJ9_min_7cf53 1 = .ok (.iload_n 1, 1) := by decide +kernel
theorem dJ9_min_7cf53_2 : decode cJ9_min_7cf53 2 = .ok (.if_icmp .gt 7, 3) := by decide +kernel
theorem dJ9_min_7cf53_5 : decode cJ9_min_7cf53 5 = .ok (.iload_n 0, 1) := by decide +kernel
theorem dJ9_min_7cf53_6 : decode cJ9_min_7cf53 6 = .ok (.goto 4, 3) := by decide +kernel
theorem dJ9_min_7cf53_9 : decode cJ9_min_7cf53 9 = .ok (.iload_n 1, 1) := by decide +kernel
theorem dJ9_min_7cf53_10 : decode cJ9_min_7cf53 10 = .ok (.ireturn, 1) := by decide +kernel
theorem dJ7_fill_d0a16_0 : decode cJ7_fill_d0a16 0 = .ok (.iconst 0, 1) := by decide +kernel
theorem dJ7_fill_d0a16_1 : decode cJ7_fill_d0a16 1 = .ok (.istore_n 3, 1) := by decide +kernel
theorem dJ7_fill_d0a16_2 : decode cJ7_fill_d0a16 2 = .ok (.aload_n 0, 1) := by decide +kernel
theorem dJ7_fill_d0a16_3 : decode cJ7_fill_d0a16 3 = .ok (.arraylength, 1) := by decide +kernel
theorem dJ7_fill_d0a16_4 : decode cJ7_fill_d0a16 4 = .ok (.istore 4, 2) := by decide +kernel
theorem dJ7_fill_d0a16_6 : decode cJ7_fill_d0a16 6 = .ok (.iload_n 3, 1) := by decide +kernel
theorem dJ7_fill_d0a16_7 : decode cJ7_fill_d0a16 7 = .ok (.iload 4, 2) := by decide +kernel
theorem dJ7_fill_d0a16_9 : decode cJ7_fill_d0a16 9 = .ok (.if_icmp .ge 13, 3) := by decide +kernel
theorem dJ7_fill_d0a16_12 : decode cJ7_fill_d0a16 12 = .ok (.aload_n 0, 1) := by decide +kernel
theorem dJ7_fill_d0a16_13 : decode cJ7_fill_d0a16 13 = .ok (.iload_n 3, 1) := by decide +kernel
theorem dJ7_fill_d0a16_14 : decode cJ7_fill_d0a16 14 = .ok (.lload_n 1, 1) := by decide +kernel
theorem dJ7_fill_d0a16_15 : decode cJ7_fill_d0a16 15 = .ok (.lastore, 1) := by decide +kernel
theorem dJ7_fill_d0a16_16 : decode cJ7_fill_d0a16 16 = .ok (.iinc 3 1, 3) := by decide +kernel
theorem dJ7_fill_d0a16_19 : decode cJ7_fill_d0a16 19 = .ok (.goto (-13), 3) := by decide +kernel
theorem dJ7_fill_d0a16_22 : decode cJ7_fill_d0a16 22 = .ok (.return_, 1) := by decide +kernel
theorem dJ7_fill_53178_0 : decode cJ7_fill_53178 0 = .ok (.iconst 0, 1) := by decide +kernel
theorem dJ7_fill_53178_1 : decode cJ7_fill_53178 1 = .ok (.istore_n 2, 1) := by decide +kernel
theorem dJ7_fill_53178_2 : decode cJ7_fill_53178 2 = .ok (.aload_n 0, 1) := by decide +kernel
theorem dJ7_fill_53178_3 : decode cJ7_fill_53178 3 = .ok (.arraylength, 1) := by decide +kernel
theorem dJ7_fill_53178_4 : decode cJ7_fill_53178 4 = .ok (.istore_n 3, 1) := by decide +kernel
theorem dJ7_fill_53178_5 : decode cJ7_fill_53178 5 = .ok (.iload_n 2, 1) := by decide +kernel
theorem dJ7_fill_53178_6 : decode cJ7_fill_53178 6 = .ok (.iload_n 3, 1) := by decide +kernel
theorem dJ7_fill_53178_7 : decode cJ7_fill_53178 7 = .ok (.if_icmp .ge 13, 3) := by decide +kernel
theorem dJ7_fill_53178_10 : decode cJ7_fill_53178 10 = .ok (.aload_n 0, 1) := by decide +kernel
theorem dJ7_fill_53178_11 : decode cJ7_fill_53178 11 = .ok (.iload_n 2, 1) := by decide +kernel
theorem dJ7_fill_53178_12 : decode cJ7_fill_53178 12 = .ok (.iload_n 1, 1) := by decide +kernel
theorem dJ7_fill_53178_13 : decode cJ7_fill_53178 13 = .ok (.iastore, 1) := by decide +kernel
theorem dJ7_fill_53178_14 : decode cJ7_fill_53178 14 = .ok (.iinc 2 1, 3) := by decide +kernel
theorem dJ7_fill_53178_17 : decode cJ7_fill_53178 17 = .ok (.goto (-12), 3) := by decide +kernel
theorem dJ7_fill_53178_20 : decode cJ7_fill_53178 20 = .ok (.return_, 1) := by decide +kernel

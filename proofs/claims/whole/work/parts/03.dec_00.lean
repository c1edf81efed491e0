theorem dX0_init_0 : decode cX0_init 0 = .ok (.aload_n 0, 1) := by decide +kernel
theorem dX0_init_1 : decode cX0_init 1 = .ok (.invokespecial 3, 3) := by decide +kernel
theorem dX0_init_4 : decode cX0_init 4 = .ok (.aload_n 0, 1) := by decide +kernel
theorem dX0_init_5 : decode cX0_init 5 = .ok (.bipush 50, 2) := by decide +kernel
theorem dX0_init_7 : decode cX0_init 7 = .ok (.newarray .int, 2) := by decide +kernel
theorem dX0_init_9 : decode cX0_init 9 = .ok (.putfield 11, 3) := by decide +kernel
theorem dX0_init_12 : decode cX0_init 12 = .ok (.aload_n 0, 1) := by decide +kernel
theorem dX0_init_13 : decode cX0_init 13 = .ok (.bipush 24, 2) := by decide +kernel
theorem dX0_init_15 : decode cX0_init 15 = .ok (.newarray .int, 2) := by decide +kernel
theorem dX0_init_17 : decode cX0_init 17 = .ok (.putfield 15, 3) := by decide +kernel
theorem dX0_init_20 : decode cX0_init 20 = .ok (.aload_n 0, 1) := by decide +kernel
theorem dX0_init_21 : decode cX0_init 21 = .ok (.iconst 0, 1) := by decide +kernel
theorem dX0_init_22 : decode cX0_init 22 = .ok (.putfield 18, 3) := by decide +kernel
theorem dX0_init_25 : decode cX0_init 25 = .ok (.aload_n 0, 1) := by decide +kernel
theorem dX0_init_26 : decode cX0_init 26 = .ok (.iconst 0, 1) := by decide +kernel
theorem dX0_init_27 : decode cX0_init 27 = .ok (.putfield 22, 3) := by decide +kernel
theorem dX0_init_30 : decode cX0_init 30 = .ok (.aload_n 0, 1) := by decide +kernel
theorem dX0_init_31 : decode cX0_init 31 = .ok (.iconst 0, 1) := by decide +kernel
theorem dX0_init_32 : decode cX0_init 32 = .ok (.putfield 25, 3) := by decide +kernel
theorem dX0_init_35 : decode cX0_init 35 = .ok (.return_, 1) := by decide +kernel
theorem dX0_add_0 : decode cX0_add 0 = .ok (.aload_n 0, 1) := by decide +kernel
theorem dX0_add_1 : decode cX0_add 1 = .ok (.getfield 18, 3) := by decide +kernel
theorem dX0_add_4 : decode cX0_add 4 = .ok (.ifCond .lt 12, 3) := by decide +kernel
theorem dX0_add_7 : decode cX0_add 7 = .ok (.aload_n 0, 1) := by decide +kernel
theorem dX0_add_8 : decode cX0_add 8 = .ok (.getfield 18, 3) := by decide +kernel
theorem dX0_add_11 : decode cX0_add 11 = .ok (.bipush 50, 2) := by decide +kernel
theorem dX0_add_13 : decode cX0_add 13 = .ok (.if_icmp .lt 6, 3) := by decide +kernel
theorem dX0_add_16 : decode cX0_add 16 = .ok (.bipush (-3), 2) := by decide +kernel
theorem dX0_add_18 : decode cX0_add 18 = .ok (.ireturn, 1) := by decide +kernel
theorem dX0_add_19 : decode cX0_add 19 = .ok (.aload_n 0, 1) := by decide +kernel
theorem dX0_add_20 : decode cX0_add 20 = .ok (.getfield 11, 3) := by decide +kernel
theorem dX0_add_23 : decode cX0_add 23 = .ok (.aload_n 0, 1) := by decide +kernel
theorem dX0_add_24 : decode cX0_add 24 = .ok (.getfield 18, 3) := by decide +kernel
theorem dX0_add_27 : decode cX0_add 27 = .ok (.iload_n 1, 1) := by decide +kernel
theorem dX0_add_28 : decode cX0_add 28 = .ok (.iastore, 1) := by decide +kernel
theorem dX0_add_29 : decode cX0_add 29 = .ok (.aload_n 0, 1) := by decide +kernel
theorem dX0_add_30 : decode cX0_add 30 = .ok (.dup, 1) := by decide +kernel
theorem dX0_add_31 : decode cX0_add 31 = .ok (.getfield 18, 3) := by decide +kernel
theorem dX0_add_34 : decode cX0_add 34 = .ok (.iconst 1, 1) := by decide +kernel
theorem dX0_add_35 : decode cX0_add 35 = .ok (.iadd, 1) := by decide +kernel
theorem dX0_add_36 : decode cX0_add 36 = .ok (.putfield 18, 3) := by decide +kernel
theorem dX0_add_39 : decode cX0_add 39 = .ok (.aload_n 0, 1) := by decide +kernel
theorem dX0_add_40 : decode cX0_add 40 = .ok (.getfield 18, 3) := by decide +kernel
theorem dX0_add_43 : decode cX0_add 43 = .ok (.iconst 1, 1) := by decide +kernel
theorem dX0_add_44 : decode cX0_add 44 = .ok (.isub, 1) := by decide +kernel
theorem dX0_add_45 : decode cX0_add 45 = .ok (.ireturn, 1) := by decide +kernel
theorem dX0_kindOf_0 : decode cX0_kindOf 0 = .ok (.iload_n 1, 1) := by decide +kernel
theorem dX0_kindOf_1 : decode cX0_kindOf 1 = .ok (.ifCond .lt 26, 3) := by decide +kernel
theorem dX0_kindOf_4 : decode cX0_kindOf 4 = .ok (.iload_n 1, 1) := by decide +kernel
theorem dX0_kindOf_5 : decode cX0_kindOf 5 = .ok (.aload_n 0, 1) := by decide +kernel
theorem dX0_kindOf_6 : decode cX0_kindOf 6 = .ok (.getfield 18, 3) := by decide +kernel
theorem dX0_kindOf_9 : decode cX0_kindOf 9 = .ok (.if_icmp .ge 18, 3) := by decide +kernel
theorem dX0_kindOf_12 : decode cX0_kindOf 12 = .ok (.iload_n 1, 1) := by decide +kernel
theorem dX0_kindOf_13 : decode cX0_kindOf 13 = .ok (.bipush 50, 2) := by decide +kernel
theorem dX0_kindOf_15 : decode cX0_kindOf 15 = .ok (.if_icmp .ge 12, 3) := by decide +kernel
theorem dX0_kindOf_18 : decode cX0_kindOf 18 = .ok (.aload_n 0, 1) := by decide +kernel
theorem dX0_kindOf_19 : decode cX0_kindOf 19 = .ok (.getfield 11, 3) := by decide +kernel
theorem dX0_kindOf_22 : decode cX0_kindOf 22 = .ok (.iload_n 1, 1) := by decide +kernel
theorem dX0_kindOf_23 : decode cX0_kindOf 23 = .ok (.iaload, 1) := by decide +kernel
theorem dX0_kindOf_24 : decode cX0_kindOf 24 = .ok (.goto 4, 3) := by decide +kernel
theorem dX0_kindOf_27 : decode cX0_kindOf 27 = .ok (.iconst (-1), 1) := by decide +kernel
theorem dX0_kindOf_28 : decode cX0_kindOf 28 = .ok (.ireturn, 1) := by decide +kernel
theorem dX0_above_0 : decode cX0_above 0 = .ok (.iload_n 0, 1) := by decide +kernel
theorem dX0_above_1 : decode cX0_above 1 = .ok (.invokestatic 28, 3) := by decide +kernel
theorem dX0_above_4 : decode cX0_above 4 = .ok (.ifCond .eq 11, 3) := by decide +kernel
theorem dX0_above_7 : decode cX0_above 7 = .ok (.getstatic 32, 3) := by decide +kernel
theorem dX0_above_10 : decode cX0_above 10 = .ok (.iload_n 0, 1) := by decide +kernel
theorem dX0_above_11 : decode cX0_above 11 = .ok (.iaload, 1) := by decide +kernel
theorem dX0_above_12 : decode cX0_above 12 = .ok (.goto 4, 3) := by decide +kernel
theorem dX0_above_15 : decode cX0_above 15 = .ok (.iconst (-1), 1) := by decide +kernel
theorem dX0_above_16 : decode cX0_above 16 = .ok (.ireturn, 1) := by decide +kernel
theorem dX0_isUnder_0 : decode cX0_isUnder 0 = .ok (.iload_n 1, 1) := by decide +kernel
theorem dX0_isUnder_1 : decode cX0_isUnder 1 = .ok (.istore_n 3, 1) := by decide +kernel
theorem dX0_isUnder_2 : decode cX0_isUnder 2 = .ok (.iconst 0, 1) := by decide +kernel
theorem dX0_isUnder_3 : decode cX0_isUnder 3 = .ok (.istore 4, 2) := by decide +kernel
theorem dX0_isUnder_5 : decode cX0_isUnder 5 = .ok (.iload 4, 2) := by decide +kernel
theorem dX0_isUnder_7 : decode cX0_isUnder 7 = .ok (.bipush 8, 2) := by decide +kernel
theorem dX0_isUnder_9 : decode cX0_isUnder 9 = .ok (.if_icmp .ge 25, 3) := by decide +kernel
theorem dX0_isUnder_12 : decode cX0_isUnder 12 = .ok (.iload_n 3, 1) := by decide +kernel
theorem dX0_isUnder_13 : decode cX0_isUnder 13 = .ok (.ifCond .lt 21, 3) := by decide +kernel
theorem dX0_isUnder_16 : decode cX0_isUnder 16 = .ok (.iload_n 3, 1) := by decide +kernel
theorem dX0_isUnder_17 : decode cX0_isUnder 17 = .ok (.iload_n 2, 1) := by decide +kernel
theorem dX0_isUnder_18 : decode cX0_isUnder 18 = .ok (.if_icmp .ne 5, 3) := by decide +kernel
theorem dX0_isUnder_21 : decode cX0_isUnder 21 = .ok (.iconst 1, 1) := by decide +kernel
theorem dX0_isUnder_22 : decode cX0_isUnder 22 = .ok (.ireturn, 1) := by decide +kernel
theorem dX0_isUnder_23 : decode cX0_isUnder 23 = .ok (.iload_n 3, 1) := by decide +kernel
theorem dX0_isUnder_24 : decode cX0_isUnder 24 = .ok (.invokestatic 35, 3) := by decide +kernel
theorem dX0_isUnder_27 : decode cX0_isUnder 27 = .ok (.istore_n 3, 1) := by decide +kernel
theorem dX0_isUnder_28 : decode cX0_isUnder 28 = .ok (.iinc 4 1, 3) := by decide +kernel
theorem dX0_isUnder_31 : decode cX0_isUnder 31 = .ok (.goto (-26), 3) := by decide +kernel
theorem dX0_isUnder_34 : decode cX0_isUnder 34 = .ok (.iconst 0, 1) := by decide +kernel
theorem dX0_isUnder_35 : decode cX0_isUnder 35 = .ok (.ireturn, 1) := by decide +kernel
theorem dX0_start_0 : decode cX0_start 0 = .ok (.aload_n 0, 1) := by decide +kernel
theorem dX0_start_1 : decode cX0_start 1 = .ok (.iconst 0, 1) := by decide +kernel
theorem dX0_start_2 : decode cX0_start 2 = .ok (.putfield 22, 3) := by decide +kernel
theorem dX0_start_5 : decode cX0_start 5 = .ok (.aload_n 0, 1) := by decide +kernel
theorem dX0_start_6 : decode cX0_start 6 = .ok (.iload_n 1, 1) := by decide +kernel
theorem dX0_start_7 : decode cX0_start 7 = .ok (.invokevirtual 39, 3) := by decide +kernel
theorem dX0_start_10 : decode cX0_start 10 = .ok (.istore 4, 2) := by decide +kernel
theorem dX0_start_12 : decode cX0_start 12 = .ok (.iload 4, 2) := by decide +kernel
theorem dX0_start_14 : decode cX0_start 14 = .ok (.ifCond .lt 12, 3) := by decide +kernel
theorem dX0_start_17 : decode cX0_start 17 = .ok (.iload_n 2, 1) := by decide +kernel
theorem dX0_start_18 : decode cX0_start 18 = .ok (.ifCond .lt 8, 3) := by decide +kernel
theorem dX0_start_21 : decode cX0_start 21 = .ok (.iload_n 2, 1) := by decide +kernel
theorem dX0_start_22 : decode cX0_start 22 = .ok (.iconst 4, 1) := by decide +kernel
theorem dX0_start_23 : decode cX0_start 23 = .ok (.if_icmp .lt 5, 3) := by decide +kernel
theorem dX0_start_26 : decode cX0_start 26 = .ok (.iconst 0, 1) := by decide +kernel
theorem dX0_start_27 : decode cX0_start 27 = .ok (.ireturn, 1) := by decide +kernel
theorem dX0_start_28 : decode cX0_start 28 = .ok (.aload_n 0, 1) := by decide +kernel
theorem dX0_start_29 : decode cX0_start 29 = .ok (.iload_n 1, 1) := by decide +kernel
theorem dX0_start_30 : decode cX0_start 30 = .ok (.putfield 25, 3) := by decide +kernel
theorem dX0_start_33 : decode cX0_start 33 = .ok (.aload_n 0, 1) := by decide +kernel
theorem dX0_start_34 : decode cX0_start 34 = .ok (.iload 4, 2) := by decide +kernel
theorem dX0_start_36 : decode cX0_start 36 = .ok (.iload 4, 2) := by decide +kernel
theorem dX0_start_38 : decode cX0_start 38 = .ok (.iload_n 2, 1) := by decide +kernel
theorem dX0_start_39 : decode cX0_start 39 = .ok (.iload_n 3, 1) := by decide +kernel
theorem dX0_start_40 : decode cX0_start 40 = .ok (.iconst 0, 1) := by decide +kernel
theorem dX0_start_41 : decode cX0_start 41 = .ok (.invokevirtual 42, 3) := by decide +kernel
theorem dX0_start_44 : decode cX0_start 44 = .ok (.ireturn, 1) := by decide +kernel
theorem dX0_traced_0 : decode cX0_traced 0 = .ok (.iload_n 1, 1) := by decide +kernel
theorem dX0_traced_1 : decode cX0_traced 1 = .ok (.ifCond .lt 26, 3) := by decide +kernel
theorem dX0_traced_4 : decode cX0_traced 4 = .ok (.iload_n 1, 1) := by decide +kernel
theorem dX0_traced_5 : decode cX0_traced 5 = .ok (.aload_n 0, 1) := by decide +kernel
theorem dX0_traced_6 : decode cX0_traced 6 = .ok (.getfield 22, 3) := by decide +kernel
theorem dX0_traced_9 : decode cX0_traced 9 = .ok (.if_icmp .ge 18, 3) := by decide +kernel
theorem dX0_traced_12 : decode cX0_traced 12 = .ok (.iload_n 1, 1) := by decide +kernel
theorem dX0_traced_13 : decode cX0_traced 13 = .ok (.bipush 24, 2) := by decide +kernel
theorem dX0_traced_15 : decode cX0_traced 15 = .ok (.if_icmp .ge 12, 3) := by decide +kernel
theorem dX0_traced_18 : decode cX0_traced 18 = .ok (.aload_n 0, 1) := by decide +kernel
theorem dX0_traced_19 : decode cX0_traced 19 = .ok (.getfield 15, 3) := by decide +kernel
theorem dX0_traced_22 : decode cX0_traced 22 = .ok (.iload_n 1, 1) := by decide +kernel
theorem dX0_traced_23 : decode cX0_traced 23 = .ok (.iaload, 1) := by decide +kernel
theorem dX0_traced_24 : decode cX0_traced 24 = .ok (.goto 4, 3) := by decide +kernel
theorem dX0_traced_27 : decode cX0_traced 27 = .ok (.iconst (-1), 1) := by decide +kernel
theorem dX0_traced_28 : decode cX0_traced 28 = .ok (.ireturn, 1) := by decide +kernel
theorem dX0_note_0 : decode cX0_note 0 = .ok (.aload_n 0, 1) := by decide +kernel
theorem dX0_note_1 : decode cX0_note 1 = .ok (.getfield 22, 3) := by decide +kernel
theorem dX0_note_4 : decode cX0_note 4 = .ok (.ifCond .lt 22, 3) := by decide +kernel
theorem dX0_note_7 : decode cX0_note 7 = .ok (.aload_n 0, 1) := by decide +kernel
theorem dX0_note_8 : decode cX0_note 8 = .ok (.getfield 22, 3) := by decide +kernel
theorem dX0_note_11 : decode cX0_note 11 = .ok (.bipush 24, 2) := by decide +kernel
theorem dX0_note_13 : decode cX0_note 13 = .ok (.if_icmp .ge 13, 3) := by decide +kernel
theorem dX0_note_16 : decode cX0_note 16 = .ok (.aload_n 0, 1) := by decide +kernel
theorem dX0_note_17 : decode cX0_note 17 = .ok (.getfield 15, 3) := by decide +kernel
theorem dX0_note_20 : decode cX0_note 20 = .ok (.aload_n 0, 1) := by decide +kernel
theorem dX0_note_21 : decode cX0_note 21 = .ok (.getfield 22, 3) := by decide +kernel
theorem dX0_note_24 : decode cX0_note 24 = .ok (.iload_n 1, 1) := by decide +kernel
theorem dX0_note_25 : decode cX0_note 25 = .ok (.iastore, 1) := by decide +kernel
theorem dX0_note_26 : decode cX0_note 26 = .ok (.aload_n 0, 1) := by decide +kernel
theorem dX0_note_27 : decode cX0_note 27 = .ok (.dup, 1) := by decide +kernel
theorem dX0_note_28 : decode cX0_note 28 = .ok (.getfield 22, 3) := by decide +kernel
theorem dX0_note_31 : decode cX0_note 31 = .ok (.iconst 1, 1) := by decide +kernel
theorem dX0_note_32 : decode cX0_note 32 = .ok (.iadd, 1) := by decide +kernel
theorem dX0_note_33 : decode cX0_note 33 = .ok (.putfield 22, 3) := by decide +kernel
theorem dX0_note_36 : decode cX0_note 36 = .ok (.return_, 1) := by decide +kernel
theorem dX0_bodyOf_0 : decode cX0_bodyOf 0 = .ok (.iload_n 0, 1) := by decide +kernel
theorem dX0_bodyOf_1 : decode cX0_bodyOf 1 = .ok (.invokestatic 28, 3) := by decide +kernel
theorem dX0_bodyOf_4 : decode cX0_bodyOf 4 = .ok (.ifCond .eq 24, 3) := by decide +kernel
theorem dX0_bodyOf_7 : decode cX0_bodyOf 7 = .ok (.iload_n 1, 1) := by decide +kernel
theorem dX0_bodyOf_8 : decode cX0_bodyOf 8 = .ok (.ifCond .lt 20, 3) := by decide +kernel
theorem dX0_bodyOf_11 : decode cX0_bodyOf 11 = .ok (.iload_n 1, 1) := by decide +kernel
theorem dX0_bodyOf_12 : decode cX0_bodyOf 12 = .ok (.iconst 4, 1) := by decide +kernel
theorem dX0_bodyOf_13 : decode cX0_bodyOf 13 = .ok (.if_icmp .ge 15, 3) := by decide +kernel
theorem dX0_bodyOf_16 : decode cX0_bodyOf 16 = .ok (.getstatic 46, 3) := by decide +kernel
theorem dX0_bodyOf_19 : decode cX0_bodyOf 19 = .ok (.iload_n 0, 1) := by decide +kernel
theorem dX0_bodyOf_20 : decode cX0_bodyOf 20 = .ok (.iconst 4, 1) := by decide +kernel
theorem dX0_bodyOf_21 : decode cX0_bodyOf 21 = .ok (.imul, 1) := by decide +kernel
theorem dX0_bodyOf_22 : decode cX0_bodyOf 22 = .ok (.iload_n 1, 1) := by decide +kernel
theorem dX0_bodyOf_23 : decode cX0_bodyOf 23 = .ok (.iadd, 1) := by decide +kernel
theorem dX0_bodyOf_24 : decode cX0_bodyOf 24 = .ok (.iaload, 1) := by decide +kernel
theorem dX0_bodyOf_25 : decode cX0_bodyOf 25 = .ok (.goto 4, 3) := by decide +kernel
theorem dX0_bodyOf_28 : decode cX0_bodyOf 28 = .ok (.iconst 0, 1) := by decide +kernel
theorem dX0_bodyOf_29 : decode cX0_bodyOf 29 = .ok (.ireturn, 1) := by decide +kernel
theorem dX0_homeOf_0 : decode cX0_homeOf 0 = .ok (.iload_n 0, 1) := by decide +kernel
theorem dX0_homeOf_1 : decode cX0_homeOf 1 = .ok (.istore_n 2, 1) := by decide +kernel
theorem dX0_homeOf_2 : decode cX0_homeOf 2 = .ok (.iconst 0, 1) := by decide +kernel
theorem dX0_homeOf_3 : decode cX0_homeOf 3 = .ok (.istore_n 3, 1) := by decide +kernel
theorem dX0_homeOf_4 : decode cX0_homeOf 4 = .ok (.iload_n 3, 1) := by decide +kernel
theorem dX0_homeOf_5 : decode cX0_homeOf 5 = .ok (.bipush 8, 2) := by decide +kernel
theorem dX0_homeOf_7 : decode cX0_homeOf 7 = .ok (.if_icmp .ge 26, 3) := by decide +kernel
theorem dX0_homeOf_10 : decode cX0_homeOf 10 = .ok (.iload_n 2, 1) := by decide +kernel
theorem dX0_homeOf_11 : decode cX0_homeOf 11 = .ok (.ifCond .lt 22, 3) := by decide +kernel
theorem dX0_homeOf_14 : decode cX0_homeOf 14 = .ok (.iload_n 2, 1) := by decide +kernel
theorem dX0_homeOf_15 : decode cX0_homeOf 15 = .ok (.iload_n 1, 1) := by decide +kernel
theorem dX0_homeOf_16 : decode cX0_homeOf 16 = .ok (.invokestatic 49, 3) := by decide +kernel
theorem dX0_homeOf_19 : decode cX0_homeOf 19 = .ok (.ifCond .ne 14, 3) := by decide +kernel
theorem dX0_homeOf_22 : decode cX0_homeOf 22 = .ok (.iload_n 2, 1) := by decide +kernel
theorem dX0_homeOf_23 : decode cX0_homeOf 23 = .ok (.invokestatic 35, 3) := by decide +kernel
theorem dX0_homeOf_26 : decode cX0_homeOf 26 = .ok (.istore_n 2, 1) := by decide +kernel
theorem dX0_homeOf_27 : decode cX0_homeOf 27 = .ok (.iinc 3 1, 3) := by decide +kernel
theorem dX0_homeOf_30 : decode cX0_homeOf 30 = .ok (.goto (-26), 3) := by decide +kernel
theorem dX0_homeOf_33 : decode cX0_homeOf 33 = .ok (.iload_n 2, 1) := by decide +kernel
theorem dX0_homeOf_34 : decode cX0_homeOf 34 = .ok (.ireturn, 1) := by decide +kernel
theorem dX0_run_0 : decode cX0_run 0 = .ok (.iload_n 2, 1) := by decide +kernel
theorem dX0_run_1 : decode cX0_run 1 = .ok (.iload_n 3, 1) := by decide +kernel
theorem dX0_run_2 : decode cX0_run 2 = .ok (.invokestatic 53, 3) := by decide +kernel
theorem dX0_run_5 : decode cX0_run 5 = .ok (.istore 6, 2) := by decide +kernel
theorem dX0_run_7 : decode cX0_run 7 = .ok (.iload 6, 2) := by decide +kernel
theorem dX0_run_9 : decode cX0_run 9 = .ok (.ifCond .lt 10, 3) := by decide +kernel
theorem dX0_run_12 : decode cX0_run 12 = .ok (.iload 5, 2) := by decide +kernel
theorem dX0_run_14 : decode cX0_run 14 = .ok (.bipush 40, 2) := by decide +kernel
theorem dX0_run_16 : decode cX0_run 16 = .ok (.if_icmp .le 5, 3) := by decide +kernel
theorem dX0_run_19 : decode cX0_run 19 = .ok (.iconst 0, 1) := by decide +kernel
theorem dX0_run_20 : decode cX0_run 20 = .ok (.ireturn, 1) := by decide +kernel
theorem dX0_run_21 : decode cX0_run 21 = .ok (.iload 6, 2) := by decide +kernel
theorem dX0_run_23 : decode cX0_run 23 = .ok (.iload_n 3, 1) := by decide +kernel
theorem dX0_run_24 : decode cX0_run 24 = .ok (.invokestatic 49, 3) := by decide +kernel
theorem dX0_run_27 : decode cX0_run 27 = .ok (.istore 7, 2) := by decide +kernel
theorem dX0_run_29 : decode cX0_run 29 = .ok (.iload 6, 2) := by decide +kernel
theorem dX0_run_31 : decode cX0_run 31 = .ok (.invokestatic 35, 3) := by decide +kernel
theorem dX0_run_34 : decode cX0_run 34 = .ok (.istore 8, 2) := by decide +kernel
theorem dX0_run_36 : decode cX0_run 36 = .ok (.iload 5, 2) := by decide +kernel
theorem dX0_run_38 : decode cX0_run 38 = .ok (.iconst 1, 1) := by decide +kernel
theorem dX0_run_39 : decode cX0_run 39 = .ok (.iadd, 1) := by decide +kernel
theorem dX0_run_40 : decode cX0_run 40 = .ok (.istore 9, 2) := by decide +kernel
theorem dX0_run_42 : decode cX0_run 42 = .ok (.aload_n 0, 1) := by decide +kernel
theorem dX0_run_43 : decode cX0_run 43 = .ok (.iload 7, 2) := by decide +kernel
theorem dX0_run_45 : decode cX0_run 45 = .ok (.invokevirtual 56, 3) := by decide +kernel
theorem dX0_run_48 : decode cX0_run 48 = .ok (.iload 7, 2) := by decide +kernel
theorem dX0_run_50 : decode cX0_run 50 = .ok (.lookupswitch 319 #[(1, 114), (2, 122), (10, 145), (11, 159), (20, 167), (30, 182), (40, 196), (41, 211), (50, 226), (60, 250), (70, 265), (80, 280), (81, 304)], 114) := by decide +kernel
theorem dX0_run_164 : decode cX0_run 164 = .ok (.iload 4, 2) := by decide +kernel
theorem dX0_run_166 : decode cX0_run 166 = .ok (.aload_n 0, 1) := by decide +kernel
theorem dX0_run_167 : decode cX0_run 167 = .ok (.getfield 25, 3) := by decide +kernel
theorem dX0_run_170 : decode cX0_run 170 = .ok (.iadd, 1) := by decide +kernel
theorem dX0_run_171 : decode cX0_run 171 = .ok (.ireturn, 1) := by decide +kernel
theorem dX0_run_172 : decode cX0_run 172 = .ok (.aload_n 0, 1) := by decide +kernel
theorem dX0_run_173 : decode cX0_run 173 = .ok (.iload_n 1, 1) := by decide +kernel
theorem dX0_run_174 : decode cX0_run 174 = .ok (.iload_n 1, 1) := by decide +kernel
theorem dX0_run_175 : decode cX0_run 175 = .ok (.iconst 1, 1) := by decide +kernel
theorem dX0_run_176 : decode cX0_run 176 = .ok (.iload 4, 2) := by decide +kernel
theorem dX0_run_178 : decode cX0_run 178 = .ok (.iload 9, 2) := by decide +kernel
theorem dX0_run_180 : decode cX0_run 180 = .ok (.invokevirtual 42, 3) := by decide +kernel
theorem dX0_run_183 : decode cX0_run 183 = .ok (.aload_n 0, 1) := by decide +kernel
theorem dX0_run_184 : decode cX0_run 184 = .ok (.iload_n 1, 1) := by decide +kernel
theorem dX0_run_185 : decode cX0_run 185 = .ok (.iload_n 1, 1) := by decide +kernel
theorem dX0_run_186 : decode cX0_run 186 = .ok (.iconst 2, 1) := by decide +kernel
theorem dX0_run_187 : decode cX0_run 187 = .ok (.iconst 1, 1) := by decide +kernel
theorem dX0_run_188 : decode cX0_run 188 = .ok (.iload 9, 2) := by decide +kernel
theorem dX0_run_190 : decode cX0_run 190 = .ok (.invokevirtual 42, 3) := by decide +kernel
theorem dX0_run_193 : decode cX0_run 193 = .ok (.isub, 1) := by decide +kernel
theorem dX0_run_194 : decode cX0_run 194 = .ok (.ireturn, 1) := by decide +kernel
theorem dX0_run_195 : decode cX0_run 195 = .ok (.aload_n 0, 1) := by decide +kernel
theorem dX0_run_196 : decode cX0_run 196 = .ok (.iload_n 1, 1) := by decide +kernel
theorem dX0_run_197 : decode cX0_run 197 = .ok (.iload_n 1, 1) := by decide +kernel
theorem dX0_run_198 : decode cX0_run 198 = .ok (.iconst 0, 1) := by decide +kernel
theorem dX0_run_199 : decode cX0_run 199 = .ok (.iload 4, 2) := by decide +kernel
theorem dX0_run_201 : decode cX0_run 201 = .ok (.iload 9, 2) := by decide +kernel
theorem dX0_run_203 : decode cX0_run 203 = .ok (.invokevirtual 42, 3) := by decide +kernel
theorem dX0_run_206 : decode cX0_run 206 = .ok (.iconst 2, 1) := by decide +kernel
theorem dX0_run_207 : decode cX0_run 207 = .ok (.imul, 1) := by decide +kernel
theorem dX0_run_208 : decode cX0_run 208 = .ok (.ireturn, 1) := by decide +kernel
theorem dX0_run_209 : decode cX0_run 209 = .ok (.iload 4, 2) := by decide +kernel
theorem dX0_run_211 : decode cX0_run 211 = .ok (.aload_n 0, 1) := by decide +kernel
theorem dX0_run_212 : decode cX0_run 212 = .ok (.getfield 25, 3) := by decide +kernel
theorem dX0_run_215 : decode cX0_run 215 = .ok (.ixor, 1) := by decide +kernel
theorem dX0_run_216 : decode cX0_run 216 = .ok (.ireturn, 1) := by decide +kernel
theorem dX0_run_217 : decode cX0_run 217 = .ok (.aload_n 0, 1) := by decide +kernel
theorem dX0_run_218 : decode cX0_run 218 = .ok (.iload_n 1, 1) := by decide +kernel
theorem dX0_run_219 : decode cX0_run 219 = .ok (.iload 8, 2) := by decide +kernel
theorem dX0_run_221 : decode cX0_run 221 = .ok (.iconst 0, 1) := by decide +kernel
theorem dX0_run_222 : decode cX0_run 222 = .ok (.iload 4, 2) := by decide +kernel
theorem dX0_run_224 : decode cX0_run 224 = .ok (.iload 9, 2) := by decide +kernel
theorem dX0_run_226 : decode cX0_run 226 = .ok (.invokevirtual 42, 3) := by decide +kernel
theorem dX0_run_229 : decode cX0_run 229 = .ok (.iconst 3, 1) := by decide +kernel
theorem dX0_run_230 : decode cX0_run 230 = .ok (.iadd, 1) := by decide +kernel
theorem dX0_run_231 : decode cX0_run 231 = .ok (.ireturn, 1) := by decide +kernel
theorem dX0_run_232 : decode cX0_run 232 = .ok (.aload_n 0, 1) := by decide +kernel
theorem dX0_run_233 : decode cX0_run 233 = .ok (.iload_n 1, 1) := by decide +kernel
theorem dX0_run_234 : decode cX0_run 234 = .ok (.iload 8, 2) := by decide +kernel
theorem dX0_run_236 : decode cX0_run 236 = .ok (.iconst 1, 1) := by decide +kernel
theorem dX0_run_237 : decode cX0_run 237 = .ok (.iload 4, 2) := by decide +kernel
theorem dX0_run_239 : decode cX0_run 239 = .ok (.iload 9, 2) := by decide +kernel
theorem dX0_run_241 : decode cX0_run 241 = .ok (.invokevirtual 42, 3) := by decide +kernel
theorem dX0_run_244 : decode cX0_run 244 = .ok (.ineg, 1) := by decide +kernel
theorem dX0_run_245 : decode cX0_run 245 = .ok (.ireturn, 1) := by decide +kernel
theorem dX0_run_246 : decode cX0_run 246 = .ok (.aload_n 0, 1) := by decide +kernel
theorem dX0_run_247 : decode cX0_run 247 = .ok (.iload_n 1, 1) := by decide +kernel
theorem dX0_run_248 : decode cX0_run 248 = .ok (.iload 8, 2) := by decide +kernel
theorem dX0_run_250 : decode cX0_run 250 = .ok (.iconst 2, 1) := by decide +kernel
theorem dX0_run_251 : decode cX0_run 251 = .ok (.iload 4, 2) := by decide +kernel
theorem dX0_run_253 : decode cX0_run 253 = .ok (.iload 9, 2) := by decide +kernel
theorem dX0_run_255 : decode cX0_run 255 = .ok (.invokevirtual 42, 3) := by decide +kernel
theorem dX0_run_258 : decode cX0_run 258 = .ok (.iconst 3, 1) := by decide +kernel
theorem dX0_run_259 : decode cX0_run 259 = .ok (.imul, 1) := by decide +kernel
theorem dX0_run_260 : decode cX0_run 260 = .ok (.ireturn, 1) := by decide +kernel
theorem dX0_run_261 : decode cX0_run 261 = .ok (.aload_n 0, 1) := by decide +kernel
theorem dX0_run_262 : decode cX0_run 262 = .ok (.iload_n 1, 1) := by decide +kernel
theorem dX0_run_263 : decode cX0_run 263 = .ok (.iload 8, 2) := by decide +kernel
theorem dX0_run_265 : decode cX0_run 265 = .ok (.iconst 1, 1) := by decide +kernel
theorem dX0_run_266 : decode cX0_run 266 = .ok (.iload 4, 2) := by decide +kernel
theorem dX0_run_268 : decode cX0_run 268 = .ok (.iconst 1, 1) := by decide +kernel
theorem dX0_run_269 : decode cX0_run 269 = .ok (.iadd, 1) := by decide +kernel
theorem dX0_run_270 : decode cX0_run 270 = .ok (.iload 9, 2) := by decide +kernel
theorem dX0_run_272 : decode cX0_run 272 = .ok (.invokevirtual 42, 3) := by decide +kernel
theorem dX0_run_275 : decode cX0_run 275 = .ok (.ireturn, 1) := by decide +kernel
theorem dX0_run_276 : decode cX0_run 276 = .ok (.aload_n 0, 1) := by decide +kernel
theorem dX0_run_277 : decode cX0_run 277 = .ok (.iload_n 1, 1) := by decide +kernel
theorem dX0_run_278 : decode cX0_run 278 = .ok (.iload 8, 2) := by decide +kernel
theorem dX0_run_280 : decode cX0_run 280 = .ok (.iconst 2, 1) := by decide +kernel
theorem dX0_run_281 : decode cX0_run 281 = .ok (.iload 4, 2) := by decide +kernel
theorem dX0_run_283 : decode cX0_run 283 = .ok (.iload 9, 2) := by decide +kernel
theorem dX0_run_285 : decode cX0_run 285 = .ok (.invokevirtual 42, 3) := by decide +kernel
theorem dX0_run_288 : decode cX0_run 288 = .ok (.aload_n 0, 1) := by decide +kernel
theorem dX0_run_289 : decode cX0_run 289 = .ok (.iload_n 1, 1) := by decide +kernel
theorem dX0_run_290 : decode cX0_run 290 = .ok (.iload_n 1, 1) := by decide +kernel
theorem dX0_run_291 : decode cX0_run 291 = .ok (.iconst 0, 1) := by decide +kernel
theorem dX0_run_292 : decode cX0_run 292 = .ok (.iconst 2, 1) := by decide +kernel
theorem dX0_run_293 : decode cX0_run 293 = .ok (.iload 9, 2) := by decide +kernel
theorem dX0_run_295 : decode cX0_run 295 = .ok (.invokevirtual 42, 3) := by decide +kernel
theorem dX0_run_298 : decode cX0_run 298 = .ok (.isub, 1) := by decide +kernel
theorem dX0_run_299 : decode cX0_run 299 = .ok (.ireturn, 1) := by decide +kernel
theorem dX0_run_300 : decode cX0_run 300 = .ok (.aload_n 0, 1) := by decide +kernel
theorem dX0_run_301 : decode cX0_run 301 = .ok (.iload_n 1, 1) := by decide +kernel
theorem dX0_run_302 : decode cX0_run 302 = .ok (.iload 8, 2) := by decide +kernel
theorem dX0_run_304 : decode cX0_run 304 = .ok (.iconst 3, 1) := by decide +kernel
theorem dX0_run_305 : decode cX0_run 305 = .ok (.iload 4, 2) := by decide +kernel
theorem dX0_run_307 : decode cX0_run 307 = .ok (.iload 9, 2) := by decide +kernel
theorem dX0_run_309 : decode cX0_run 309 = .ok (.invokevirtual 42, 3) := by decide +kernel
theorem dX0_run_312 : decode cX0_run 312 = .ok (.iconst 5, 1) := by decide +kernel
theorem dX0_run_313 : decode cX0_run 313 = .ok (.ixor, 1) := by decide +kernel
theorem dX0_run_314 : decode cX0_run 314 = .ok (.ireturn, 1) := by decide +kernel
theorem dX0_run_315 : decode cX0_run 315 = .ok (.aload_n 0, 1) := by decide +kernel
theorem dX0_run_316 : decode cX0_run 316 = .ok (.iload_n 1, 1) := by decide +kernel
theorem dX0_run_317 : decode cX0_run 317 = .ok (.iload 8, 2) := by decide +kernel
theorem dX0_run_319 : decode cX0_run 319 = .ok (.iconst 0, 1) := by decide +kernel
theorem dX0_run_320 : decode cX0_run 320 = .ok (.iload 4, 2) := by decide +kernel
theorem dX0_run_322 : decode cX0_run 322 = .ok (.iload 9, 2) := by decide +kernel
theorem dX0_run_324 : decode cX0_run 324 = .ok (.invokevirtual 42, 3) := by decide +kernel
theorem dX0_run_327 : decode cX0_run 327 = .ok (.iconst 2, 1) := by decide +kernel
theorem dX0_run_328 : decode cX0_run 328 = .ok (.imul, 1) := by decide +kernel
theorem dX0_run_329 : decode cX0_run 329 = .ok (.ireturn, 1) := by decide +kernel
theorem dX0_run_330 : decode cX0_run 330 = .ok (.aload_n 0, 1) := by decide +kernel
theorem dX0_run_331 : decode cX0_run 331 = .ok (.iload_n 1, 1) := by decide +kernel
theorem dX0_run_332 : decode cX0_run 332 = .ok (.iload 8, 2) := by decide +kernel
theorem dX0_run_334 : decode cX0_run 334 = .ok (.iconst 1, 1) := by decide +kernel
theorem dX0_run_335 : decode cX0_run 335 = .ok (.iload 4, 2) := by decide +kernel
theorem dX0_run_337 : decode cX0_run 337 = .ok (.iload 9, 2) := by decide +kernel
theorem dX0_run_339 : decode cX0_run 339 = .ok (.invokevirtual 42, 3) := by decide +kernel
theorem dX0_run_342 : decode cX0_run 342 = .ok (.aload_n 0, 1) := by decide +kernel
theorem dX0_run_343 : decode cX0_run 343 = .ok (.iload_n 1, 1) := by decide +kernel
theorem dX0_run_344 : decode cX0_run 344 = .ok (.iload_n 1, 1) := by decide +kernel
theorem dX0_run_345 : decode cX0_run 345 = .ok (.iconst 2, 1) := by decide +kernel
theorem dX0_run_346 : decode cX0_run 346 = .ok (.iconst 2, 1) := by decide +kernel
theorem dX0_run_347 : decode cX0_run 347 = .ok (.iload 9, 2) := by decide +kernel
theorem dX0_run_349 : decode cX0_run 349 = .ok (.invokevirtual 42, 3) := by decide +kernel
theorem dX0_run_352 : decode cX0_run 352 = .ok (.iadd, 1) := by decide +kernel
theorem dX0_run_353 : decode cX0_run 353 = .ok (.ireturn, 1) := by decide +kernel
theorem dX0_run_354 : decode cX0_run 354 = .ok (.aload_n 0, 1) := by decide +kernel
theorem dX0_run_355 : decode cX0_run 355 = .ok (.iload_n 1, 1) := by decide +kernel
theorem dX0_run_356 : decode cX0_run 356 = .ok (.iload 8, 2) := by decide +kernel
theorem dX0_run_358 : decode cX0_run 358 = .ok (.iconst 3, 1) := by decide +kernel
theorem dX0_run_359 : decode cX0_run 359 = .ok (.iload 4, 2) := by decide +kernel
theorem dX0_run_361 : decode cX0_run 361 = .ok (.iload 9, 2) := by decide +kernel
theorem dX0_run_363 : decode cX0_run 363 = .ok (.invokevirtual 42, 3) := by decide +kernel
theorem dX0_run_366 : decode cX0_run 366 = .ok (.iconst 1, 1) := by decide +kernel
theorem dX0_run_367 : decode cX0_run 367 = .ok (.isub, 1) := by decide +kernel
theorem dX0_run_368 : decode cX0_run 368 = .ok (.ireturn, 1) := by decide +kernel
theorem dX0_run_369 : decode cX0_run 369 = .ok (.iconst 0, 1) := by decide +kernel
theorem dX0_run_370 : decode cX0_run 370 = .ok (.ireturn, 1) := by decide +kernel
theorem dX1_init_0 : decode cX1_init 0 = .ok (.aload_n 0, 1) := by decide +kernel
theorem dX1_init_1 : decode cX1_init 1 = .ok (.invokespecial 3, 3) := by decide +kernel
theorem dX1_init_4 : decode cX1_init 4 = .ok (.aload_n 0, 1) := by decide +kernel
theorem dX1_init_5 : decode cX1_init 5 = .ok (.aload_n 1, 1) := by decide +kernel
theorem dX1_init_6 : decode cX1_init 6 = .ok (.putfield 9, 3) := by decide +kernel
theorem dX1_init_9 : decode cX1_init 9 = .ok (.aload_n 0, 1) := by decide +kernel
theorem dX1_init_10 : decode cX1_init 10 = .ok (.aload_n 2, 1) := by decide +kernel
theorem dX1_init_11 : decode cX1_init 11 = .ok (.putfield 15, 3) := by decide +kernel
theorem dX1_init_14 : decode cX1_init 14 = .ok (.aload_n 0, 1) := by decide +kernel
theorem dX1_init_15 : decode cX1_init 15 = .ok (.new 19, 3) := by decide +kernel
theorem dX1_init_18 : decode cX1_init 18 = .ok (.dup, 1) := by decide +kernel
theorem dX1_init_19 : decode cX1_init 19 = .ok (.invokespecial 21, 3) := by decide +kernel
theorem dX1_init_22 : decode cX1_init 22 = .ok (.putfield 22, 3) := by decide +kernel
theorem dX1_init_25 : decode cX1_init 25 = .ok (.aload_n 0, 1) := by decide +kernel
theorem dX1_init_26 : decode cX1_init 26 = .ok (.bipush 8, 2) := by decide +kernel
theorem dX1_init_28 : decode cX1_init 28 = .ok (.newarray .int, 2) := by decide +kernel
theorem dX1_init_30 : decode cX1_init 30 = .ok (.putfield 26, 3) := by decide +kernel
theorem dX1_init_33 : decode cX1_init 33 = .ok (.aload_n 0, 1) := by decide +kernel
theorem dX1_init_34 : decode cX1_init 34 = .ok (.bipush 8, 2) := by decide +kernel
theorem dX1_init_36 : decode cX1_init 36 = .ok (.newarray .int, 2) := by decide +kernel
theorem dX1_init_38 : decode cX1_init 38 = .ok (.putfield 30, 3) := by decide +kernel
theorem dX1_init_41 : decode cX1_init 41 = .ok (.return_, 1) := by decide +kernel
theorem dX1_look_0 : decode cX1_look 0 = .ok (.iconst 0, 1) := by decide +kernel
theorem dX1_look_1 : decode cX1_look 1 = .ok (.istore 4, 2) := by decide +kernel
theorem dX1_look_3 : decode cX1_look 3 = .ok (.iload 4, 2) := by decide +kernel
theorem dX1_look_5 : decode cX1_look 5 = .ok (.bipush 8, 2) := by decide +kernel
theorem dX1_look_7 : decode cX1_look 7 = .ok (.if_icmp .ge 101, 3) := by decide +kernel
theorem dX1_look_10 : decode cX1_look 10 = .ok (.iload_n 2, 1) := by decide +kernel
theorem dX1_look_11 : decode cX1_look 11 = .ok (.bipush 8, 2) := by decide +kernel
theorem dX1_look_13 : decode cX1_look 13 = .ok (.imul, 1) := by decide +kernel
theorem dX1_look_14 : decode cX1_look 14 = .ok (.iload 4, 2) := by decide +kernel
theorem dX1_look_16 : decode cX1_look 16 = .ok (.iadd, 1) := by decide +kernel
theorem dX1_look_17 : decode cX1_look 17 = .ok (.istore 5, 2) := by decide +kernel
theorem dX1_look_19 : decode cX1_look 19 = .ok (.aload_n 0, 1) := by decide +kernel
theorem dX1_look_20 : decode cX1_look 20 = .ok (.getfield 9, 3) := by decide +kernel
theorem dX1_look_23 : decode cX1_look 23 = .ok (.iload 5, 2) := by decide +kernel
theorem dX1_look_25 : decode cX1_look 25 = .ok (.iconst 2, 1) := by decide +kernel
theorem dX1_look_26 : decode cX1_look 26 = .ok (.invokevirtual 33, 3) := by decide +kernel
theorem dX1_look_29 : decode cX1_look 29 = .ok (.istore 6, 2) := by decide +kernel
theorem dX1_look_31 : decode cX1_look 31 = .ok (.aload_n 0, 1) := by decide +kernel
theorem dX1_look_32 : decode cX1_look 32 = .ok (.aload_n 1, 1) := by decide +kernel
theorem dX1_look_33 : decode cX1_look 33 = .ok (.iload 5, 2) := by decide +kernel
theorem dX1_look_35 : decode cX1_look 35 = .ok (.aload_n 3, 1) := by decide +kernel
theorem dX1_look_36 : decode cX1_look 36 = .ok (.iconst 0, 1) := by decide +kernel
theorem dX1_look_37 : decode cX1_look 37 = .ok (.invokevirtual 39, 3) := by decide +kernel
theorem dX1_look_40 : decode cX1_look 40 = .ok (.ifCond .eq 7, 3) := by decide +kernel
theorem dX1_look_43 : decode cX1_look 43 = .ok (.iconst 1, 1) := by decide +kernel
theorem dX1_look_44 : decode cX1_look 44 = .ok (.goto 4, 3) := by decide +kernel
theorem dX1_look_47 : decode cX1_look 47 = .ok (.iconst 0, 1) := by decide +kernel
theorem dX1_look_48 : decode cX1_look 48 = .ok (.istore 7, 2) := by decide +kernel
theorem dX1_look_50 : decode cX1_look 50 = .ok (.aload_n 0, 1) := by decide +kernel
theorem dX1_look_51 : decode cX1_look 51 = .ok (.aload_n 1, 1) := by decide +kernel
theorem dX1_look_52 : decode cX1_look 52 = .ok (.iload 5, 2) := by decide +kernel
theorem dX1_look_54 : decode cX1_look 54 = .ok (.aload_n 3, 1) := by decide +kernel
theorem dX1_look_55 : decode cX1_look 55 = .ok (.iconst 1, 1) := by decide +kernel
theorem dX1_look_56 : decode cX1_look 56 = .ok (.invokevirtual 39, 3) := by decide +kernel
theorem dX1_look_59 : decode cX1_look 59 = .ok (.ifCond .eq 7, 3) := by decide +kernel
theorem dX1_look_62 : decode cX1_look 62 = .ok (.iconst 1, 1) := by decide +kernel
theorem dX1_look_63 : decode cX1_look 63 = .ok (.goto 4, 3) := by decide +kernel
theorem dX1_look_66 : decode cX1_look 66 = .ok (.iconst 0, 1) := by decide +kernel
theorem dX1_look_67 : decode cX1_look 67 = .ok (.istore 8, 2) := by decide +kernel
theorem dX1_look_69 : decode cX1_look 69 = .ok (.aload_n 0, 1) := by decide +kernel
theorem dX1_look_70 : decode cX1_look 70 = .ok (.getfield 26, 3) := by decide +kernel
theorem dX1_look_73 : decode cX1_look 73 = .ok (.iload 4, 2) := by decide +kernel
theorem dX1_look_75 : decode cX1_look 75 = .ok (.iload 7, 2) := by decide +kernel
theorem dX1_look_77 : decode cX1_look 77 = .ok (.bipush 12, 2) := by decide +kernel
theorem dX1_look_79 : decode cX1_look 79 = .ok (.iload 6, 2) := by decide +kernel
theorem dX1_look_81 : decode cX1_look 81 = .ok (.isub, 1) := by decide +kernel
theorem dX1_look_82 : decode cX1_look 82 = .ok (.imul, 1) := by decide +kernel
theorem dX1_look_83 : decode cX1_look 83 = .ok (.iload 8, 2) := by decide +kernel
theorem dX1_look_85 : decode cX1_look 85 = .ok (.iload 6, 2) := by decide +kernel
theorem dX1_look_87 : decode cX1_look 87 = .ok (.imul, 1) := by decide +kernel
theorem dX1_look_88 : decode cX1_look 88 = .ok (.iadd, 1) := by decide +kernel
theorem dX1_look_89 : decode cX1_look 89 = .ok (.iastore, 1) := by decide +kernel
theorem dX1_look_90 : decode cX1_look 90 = .ok (.aload_n 0, 1) := by decide +kernel
theorem dX1_look_91 : decode cX1_look 91 = .ok (.getfield 30, 3) := by decide +kernel
theorem dX1_look_94 : decode cX1_look 94 = .ok (.iload 4, 2) := by decide +kernel
theorem dX1_look_96 : decode cX1_look 96 = .ok (.iload 7, 2) := by decide +kernel
theorem dX1_look_98 : decode cX1_look 98 = .ok (.bipush 12, 2) := by decide +kernel
theorem dX1_look_100 : decode cX1_look 100 = .ok (.imul, 1) := by decide +kernel
theorem dX1_look_101 : decode cX1_look 101 = .ok (.iastore, 1) := by decide +kernel
theorem dX1_look_102 : decode cX1_look 102 = .ok (.iinc 4 1, 3) := by decide +kernel
theorem dX1_look_105 : decode cX1_look 105 = .ok (.goto (-102), 3) := by decide +kernel
theorem dX1_look_108 : decode cX1_look 108 = .ok (.return_, 1) := by decide +kernel
theorem dX1_holdsAll_0 : decode cX1_holdsAll 0 = .ok (.aload_n 0, 1) := by decide +kernel
theorem dX1_holdsAll_1 : decode cX1_holdsAll 1 = .ok (.getfield 15, 3) := by decide +kernel
theorem dX1_holdsAll_4 : decode cX1_holdsAll 4 = .ok (.aload_n 0, 1) := by decide +kernel
theorem dX1_holdsAll_5 : decode cX1_holdsAll 5 = .ok (.getfield 22, 3) := by decide +kernel
theorem dX1_holdsAll_8 : decode cX1_holdsAll 8 = .ok (.aload_n 1, 1) := by decide +kernel
theorem dX1_holdsAll_9 : decode cX1_holdsAll 9 = .ok (.invokevirtual 43, 3) := by decide +kernel
theorem dX1_holdsAll_12 : decode cX1_holdsAll 12 = .ok (.iload 4, 2) := by decide +kernel
theorem dX1_holdsAll_14 : decode cX1_holdsAll 14 = .ok (.ifCond .eq 15, 3) := by decide +kernel
theorem dX1_holdsAll_17 : decode cX1_holdsAll 17 = .ok (.aload_n 0, 1) := by decide +kernel
theorem dX1_holdsAll_18 : decode cX1_holdsAll 18 = .ok (.getfield 15, 3) := by decide +kernel
theorem dX1_holdsAll_21 : decode cX1_holdsAll 21 = .ok (.aload_n 0, 1) := by decide +kernel
theorem dX1_holdsAll_22 : decode cX1_holdsAll 22 = .ok (.getfield 22, 3) := by decide +kernel
theorem dX1_holdsAll_25 : decode cX1_holdsAll 25 = .ok (.iload_n 2, 1) := by decide +kernel
theorem dX1_holdsAll_26 : decode cX1_holdsAll 26 = .ok (.invokevirtual 49, 3) := by decide +kernel
theorem dX1_holdsAll_29 : decode cX1_holdsAll 29 = .ok (.iconst 0, 1) := by decide +kernel
theorem dX1_holdsAll_30 : decode cX1_holdsAll 30 = .ok (.istore 5, 2) := by decide +kernel
theorem dX1_holdsAll_32 : decode cX1_holdsAll 32 = .ok (.iload 5, 2) := by decide +kernel
theorem dX1_holdsAll_34 : decode cX1_holdsAll 34 = .ok (.aload_n 3, 1) := by decide +kernel
theorem dX1_holdsAll_35 : decode cX1_holdsAll 35 = .ok (.getfield 53, 3) := by decide +kernel
theorem dX1_holdsAll_38 : decode cX1_holdsAll 38 = .ok (.if_icmp .ge 51, 3) := by decide +kernel
theorem dX1_holdsAll_41 : decode cX1_holdsAll 41 = .ok (.aload_n 0, 1) := by decide +kernel
theorem dX1_holdsAll_42 : decode cX1_holdsAll 42 = .ok (.getfield 15, 3) := by decide +kernel
theorem dX1_holdsAll_45 : decode cX1_holdsAll 45 = .ok (.aload_n 3, 1) := by decide +kernel
theorem dX1_holdsAll_46 : decode cX1_holdsAll 46 = .ok (.iload 5, 2) := by decide +kernel
theorem dX1_holdsAll_48 : decode cX1_holdsAll 48 = .ok (.invokevirtual 59, 3) := by decide +kernel
theorem dX1_holdsAll_51 : decode cX1_holdsAll 51 = .ok (.iconst 0, 1) := by decide +kernel
theorem dX1_holdsAll_52 : decode cX1_holdsAll 52 = .ok (.invokevirtual 63, 3) := by decide +kernel
theorem dX1_holdsAll_55 : decode cX1_holdsAll 55 = .ok (.aload_n 0, 1) := by decide +kernel
theorem dX1_holdsAll_56 : decode cX1_holdsAll 56 = .ok (.getfield 15, 3) := by decide +kernel
theorem dX1_holdsAll_59 : decode cX1_holdsAll 59 = .ok (.aload_n 0, 1) := by decide +kernel
theorem dX1_holdsAll_60 : decode cX1_holdsAll 60 = .ok (.getfield 22, 3) := by decide +kernel
theorem dX1_holdsAll_63 : decode cX1_holdsAll 63 = .ok (.iload_n 2, 1) := by decide +kernel
theorem dX1_holdsAll_64 : decode cX1_holdsAll 64 = .ok (.invokevirtual 67, 3) := by decide +kernel
theorem dX1_holdsAll_67 : decode cX1_holdsAll 67 = .ok (.ifCond .ne 5, 3) := by decide +kernel
theorem dX1_holdsAll_70 : decode cX1_holdsAll 70 = .ok (.iconst 0, 1) := by decide +kernel
theorem dX1_holdsAll_71 : decode cX1_holdsAll 71 = .ok (.ireturn, 1) := by decide +kernel
theorem dX1_holdsAll_72 : decode cX1_holdsAll 72 = .ok (.aload_n 0, 1) := by decide +kernel
theorem dX1_holdsAll_73 : decode cX1_holdsAll 73 = .ok (.getfield 15, 3) := by decide +kernel
theorem dX1_holdsAll_76 : decode cX1_holdsAll 76 = .ok (.aload_n 0, 1) := by decide +kernel
theorem dX1_holdsAll_77 : decode cX1_holdsAll 77 = .ok (.getfield 22, 3) := by decide +kernel
theorem dX1_holdsAll_80 : decode cX1_holdsAll 80 = .ok (.invokevirtual 71, 3) := by decide +kernel
theorem dX1_holdsAll_83 : decode cX1_holdsAll 83 = .ok (.iinc 5 1, 3) := by decide +kernel
theorem dX1_holdsAll_86 : decode cX1_holdsAll 86 = .ok (.goto (-54), 3) := by decide +kernel
theorem dX1_holdsAll_89 : decode cX1_holdsAll 89 = .ok (.iconst 1, 1) := by decide +kernel
theorem dX1_holdsAll_90 : decode cX1_holdsAll 90 = .ok (.ireturn, 1) := by decide +kernel
theorem dX1_likely_0 : decode cX1_likely 0 = .ok (.aload_n 0, 1) := by decide +kernel
theorem dX1_likely_1 : decode cX1_likely 1 = .ok (.iconst (-1), 1) := by decide +kernel
theorem dX1_likely_2 : decode cX1_likely 2 = .ok (.invokevirtual 75, 3) := by decide +kernel
theorem dX1_likely_5 : decode cX1_likely 5 = .ok (.lreturn, 1) := by decide +kernel
theorem dX1_likelyBored_0 : decode cX1_likelyBored 0 = .ok (.lconst 1, 1) := by decide +kernel
theorem dX1_likelyBored_1 : decode cX1_likelyBored 1 = .ok (.lstore_n 2, 1) := by decide +kernel
theorem dX1_likelyBored_2 : decode cX1_likelyBored 2 = .ok (.iconst 0, 1) := by decide +kernel
theorem dX1_likelyBored_3 : decode cX1_likelyBored 3 = .ok (.istore 4, 2) := by decide +kernel
theorem dX1_likelyBored_5 : decode cX1_likelyBored 5 = .ok (.iload 4, 2) := by decide +kernel
theorem dX1_likelyBored_7 : decode cX1_likelyBored 7 = .ok (.bipush 8, 2) := by decide +kernel
theorem dX1_likelyBored_9 : decode cX1_likelyBored 9 = .ok (.if_icmp .ge 37, 3) := by decide +kernel
theorem dX1_likelyBored_12 : decode cX1_likelyBored 12 = .ok (.lload_n 2, 1) := by decide +kernel
theorem dX1_likelyBored_13 : decode cX1_likelyBored 13 = .ok (.iload 4, 2) := by decide +kernel
theorem dX1_likelyBored_15 : decode cX1_likelyBored 15 = .ok (.iload_n 1, 1) := by decide +kernel
theorem dX1_likelyBored_16 : decode cX1_likelyBored 16 = .ok (.if_icmp .ne 14, 3) := by decide +kernel
theorem dX1_likelyBored_19 : decode cX1_likelyBored 19 = .ok (.aload_n 0, 1) := by decide +kernel
theorem dX1_likelyBored_20 : decode cX1_likelyBored 20 = .ok (.getfield 30, 3) := by decide +kernel
theorem dX1_likelyBored_23 : decode cX1_likelyBored 23 = .ok (.iload 4, 2) := by decide +kernel
theorem dX1_likelyBored_25 : decode cX1_likelyBored 25 = .ok (.iaload, 1) := by decide +kernel
theorem dX1_likelyBored_26 : decode cX1_likelyBored 26 = .ok (.i2l, 1) := by decide +kernel
theorem dX1_likelyBored_27 : decode cX1_likelyBored 27 = .ok (.goto 11, 3) := by decide +kernel
theorem dX1_likelyBored_30 : decode cX1_likelyBored 30 = .ok (.aload_n 0, 1) := by decide +kernel
theorem dX1_likelyBored_31 : decode cX1_likelyBored 31 = .ok (.getfield 26, 3) := by decide +kernel
theorem dX1_likelyBored_34 : decode cX1_likelyBored 34 = .ok (.iload 4, 2) := by decide +kernel
theorem dX1_likelyBored_36 : decode cX1_likelyBored 36 = .ok (.iaload, 1) := by decide +kernel
theorem dX1_likelyBored_37 : decode cX1_likelyBored 37 = .ok (.i2l, 1) := by decide +kernel
theorem dX1_likelyBored_38 : decode cX1_likelyBored 38 = .ok (.lmul, 1) := by decide +kernel
theorem dX1_likelyBored_39 : decode cX1_likelyBored 39 = .ok (.lstore_n 2, 1) := by decide +kernel
theorem dX1_likelyBored_40 : decode cX1_likelyBored 40 = .ok (.iinc 4 1, 3) := by decide +kernel
theorem dX1_likelyBored_43 : decode cX1_likelyBored 43 = .ok (.goto (-38), 3) := by decide +kernel
theorem dX1_likelyBored_46 : decode cX1_likelyBored 46 = .ok (.lload_n 2, 1) := by decide +kernel
theorem dX1_likelyBored_47 : decode cX1_likelyBored 47 = .ok (.lreturn, 1) := by decide +kernel
theorem dX1_bestBored_0 : decode cX1_bestBored 0 = .ok (.iconst 0, 1) := by decide +kernel
theorem dX1_bestBored_1 : decode cX1_bestBored 1 = .ok (.istore_n 1, 1) := by decide +kernel
theorem dX1_bestBored_2 : decode cX1_bestBored 2 = .ok (.iconst 1, 1) := by decide +kernel
theorem dX1_bestBored_3 : decode cX1_bestBored 3 = .ok (.istore_n 2, 1) := by decide +kernel
theorem dX1_bestBored_4 : decode cX1_bestBored 4 = .ok (.iload_n 2, 1) := by decide +kernel
theorem dX1_bestBored_5 : decode cX1_bestBored 5 = .ok (.bipush 8, 2) := by decide +kernel
theorem dX1_bestBored_7 : decode cX1_bestBored 7 = .ok (.if_icmp .ge 25, 3) := by decide +kernel
theorem dX1_bestBored_10 : decode cX1_bestBored 10 = .ok (.aload_n 0, 1) := by decide +kernel
theorem dX1_bestBored_11 : decode cX1_bestBored 11 = .ok (.iload_n 2, 1) := by decide +kernel
theorem dX1_bestBored_12 : decode cX1_bestBored 12 = .ok (.invokevirtual 75, 3) := by decide +kernel
theorem dX1_bestBored_15 : decode cX1_bestBored 15 = .ok (.aload_n 0, 1) := by decide +kernel
theorem dX1_bestBored_16 : decode cX1_bestBored 16 = .ok (.iload_n 1, 1) := by decide +kernel
theorem dX1_bestBored_17 : decode cX1_bestBored 17 = .ok (.invokevirtual 75, 3) := by decide +kernel
theorem dX1_bestBored_20 : decode cX1_bestBored 20 = .ok (.lcmp, 1) := by decide +kernel
theorem dX1_bestBored_21 : decode cX1_bestBored 21 = .ok (.ifCond .le 5, 3) := by decide +kernel
theorem dX1_bestBored_24 : decode cX1_bestBored 24 = .ok (.iload_n 2, 1) := by decide +kernel
theorem dX1_bestBored_25 : decode cX1_bestBored 25 = .ok (.istore_n 1, 1) := by decide +kernel
theorem dX1_bestBored_26 : decode cX1_bestBored 26 = .ok (.iinc 2 1, 3) := by decide +kernel
theorem dX1_bestBored_29 : decode cX1_bestBored 29 = .ok (.goto (-25), 3) := by decide +kernel
theorem dX1_bestBored_32 : decode cX1_bestBored 32 = .ok (.iload_n 1, 1) := by decide +kernel
theorem dX1_bestBored_33 : decode cX1_bestBored 33 = .ok (.ireturn, 1) := by decide +kernel
theorem dX1_part_0 : decode cX1_part 0 = .ok (.lload_n 1, 1) := by decide +kernel
theorem dX1_part_1 : decode cX1_part 1 = .ok (.ldc2_w 79, 3) := by decide +kernel
theorem dX1_part_4 : decode cX1_part 4 = .ok (.invokestatic 81, 3) := by decide +kernel
theorem dX1_part_7 : decode cX1_part 7 = .ok (.lstore 4, 2) := by decide +kernel
theorem dX1_part_9 : decode cX1_part 9 = .ok (.lload 4, 2) := by decide +kernel
theorem dX1_part_11 : decode cX1_part 11 = .ok (.lconst 0, 1) := by decide +kernel
theorem dX1_part_12 : decode cX1_part 12 = .ok (.lcmp, 1) := by decide +kernel
theorem dX1_part_13 : decode cX1_part 13 = .ok (.ifCond .ne 5, 3) := by decide +kernel
theorem dX1_part_16 : decode cX1_part 16 = .ok (.lconst 0, 1) := by decide +kernel
theorem dX1_part_17 : decode cX1_part 17 = .ok (.lreturn, 1) := by decide +kernel
theorem dX1_part_18 : decode cX1_part 18 = .ok (.iload_n 3, 1) := by decide +kernel
theorem dX1_part_19 : decode cX1_part 19 = .ok (.ifCond .ne 7, 3) := by decide +kernel
theorem dX1_part_22 : decode cX1_part 22 = .ok (.lload_n 1, 1) := by decide +kernel
theorem dX1_part_23 : decode cX1_part 23 = .ok (.goto 6, 3) := by decide +kernel
theorem dX1_part_26 : decode cX1_part 26 = .ok (.ldc2_w 79, 3) := by decide +kernel
theorem dX1_part_29 : decode cX1_part 29 = .ok (.lload 4, 2) := by decide +kernel
theorem dX1_part_31 : decode cX1_part 31 = .ok (.ldiv, 1) := by decide +kernel
theorem dX1_part_32 : decode cX1_part 32 = .ok (.lreturn, 1) := by decide +kernel
theorem dX1_common_0 : decode cX1_common 0 = .ok (.lload_n 0, 1) := by decide +kernel
theorem dX1_common_1 : decode cX1_common 1 = .ok (.lstore 4, 2) := by decide +kernel
theorem dX1_common_3 : decode cX1_common 3 = .ok (.lload_n 2, 1) := by decide +kernel
theorem dX1_common_4 : decode cX1_common 4 = .ok (.lstore 6, 2) := by decide +kernel
theorem dX1_common_6 : decode cX1_common 6 = .ok (.iconst 0, 1) := by decide +kernel
theorem dX1_common_7 : decode cX1_common 7 = .ok (.istore 8, 2) := by decide +kernel
theorem dX1_common_9 : decode cX1_common 9 = .ok (.iload 8, 2) := by decide +kernel
theorem dX1_common_11 : decode cX1_common 11 = .ok (.sipush 200, 3) := by decide +kernel
theorem dX1_common_14 : decode cX1_common 14 = .ok (.if_icmp .ge 31, 3) := by decide +kernel
theorem dX1_common_17 : decode cX1_common 17 = .ok (.lload 6, 2) := by decide +kernel
theorem dX1_common_19 : decode cX1_common 19 = .ok (.lconst 0, 1) := by decide +kernel
theorem dX1_common_20 : decode cX1_common 20 = .ok (.lcmp, 1) := by decide +kernel
theorem dX1_common_21 : decode cX1_common 21 = .ok (.ifCond .eq 24, 3) := by decide +kernel
theorem dX1_common_24 : decode cX1_common 24 = .ok (.lload 4, 2) := by decide +kernel
theorem dX1_common_26 : decode cX1_common 26 = .ok (.lload 6, 2) := by decide +kernel
theorem dX1_common_28 : decode cX1_common 28 = .ok (.lrem, 1) := by decide +kernel
theorem dX1_common_29 : decode cX1_common 29 = .ok (.lstore 9, 2) := by decide +kernel
theorem dX1_common_31 : decode cX1_common 31 = .ok (.lload 6, 2) := by decide +kernel
theorem dX1_common_33 : decode cX1_common 33 = .ok (.lstore 4, 2) := by decide +kernel
theorem dX1_common_35 : decode cX1_common 35 = .ok (.lload 9, 2) := by decide +kernel
theorem dX1_common_37 : decode cX1_common 37 = .ok (.lstore 6, 2) := by decide +kernel
theorem dX1_common_39 : decode cX1_common 39 = .ok (.iinc 8 1, 3) := by decide +kernel
theorem dX1_common_42 : decode cX1_common 42 = .ok (.goto (-33), 3) := by decide +kernel
theorem dX1_common_45 : decode cX1_common 45 = .ok (.lload 4, 2) := by decide +kernel
theorem dX1_common_47 : decode cX1_common 47 = .ok (.lreturn, 1) := by decide +kernel
theorem dX2_init_0 : decode cX2_init 0 = .ok (.aload_n 0, 1) := by decide +kernel
theorem dX2_init_1 : decode cX2_init 1 = .ok (.invokespecial 1, 3) := by decide +kernel
theorem dX2_init_4 : decode cX2_init 4 = .ok (.aload_n 0, 1) := by decide +kernel
theorem dX2_init_5 : decode cX2_init 5 = .ok (.bipush 40, 2) := by decide +kernel
theorem dX2_init_7 : decode cX2_init 7 = .ok (.newarray .int, 2) := by decide +kernel
theorem dX2_init_9 : decode cX2_init 9 = .ok (.putfield 9, 3) := by decide +kernel
theorem dX2_init_12 : decode cX2_init 12 = .ok (.aload_n 0, 1) := by decide +kernel
theorem dX2_init_13 : decode cX2_init 13 = .ok (.bipush 40, 2) := by decide +kernel
theorem dX2_init_15 : decode cX2_init 15 = .ok (.newarray .int, 2) := by decide +kernel
theorem dX2_init_17 : decode cX2_init 17 = .ok (.putfield 13, 3) := by decide +kernel
theorem dX2_init_20 : decode cX2_init 20 = .ok (.aload_n 0, 1) := by decide +kernel
theorem dX2_init_21 : decode cX2_init 21 = .ok (.bipush 40, 2) := by decide +kernel
theorem dX2_init_23 : decode cX2_init 23 = .ok (.newarray .int, 2) := by decide +kernel
theorem dX2_init_25 : decode cX2_init 25 = .ok (.putfield 16, 3) := by decide +kernel
theorem dX2_init_28 : decode cX2_init 28 = .ok (.aload_n 0, 1) := by decide +kernel
theorem dX2_init_29 : decode cX2_init 29 = .ok (.bipush 40, 2) := by decide +kernel
theorem dX2_init_31 : decode cX2_init 31 = .ok (.newarray .int, 2) := by decide +kernel
theorem dX2_init_33 : decode cX2_init 33 = .ok (.putfield 19, 3) := by decide +kernel
theorem dX2_init_36 : decode cX2_init 36 = .ok (.aload_n 0, 1) := by decide +kernel
theorem dX2_init_37 : decode cX2_init 37 = .ok (.iconst 0, 1) := by decide +kernel
theorem dX2_init_38 : decode cX2_init 38 = .ok (.putfield 22, 3) := by decide +kernel
theorem dX2_init_41 : decode cX2_init 41 = .ok (.aload_n 0, 1) := by decide +kernel
theorem dX2_init_42 : decode cX2_init 42 = .ok (.iconst 0, 1) := by decide +kernel
theorem dX2_init_43 : decode cX2_init 43 = .ok (.putfield 26, 3) := by decide +kernel
theorem dX2_init_46 : decode cX2_init 46 = .ok (.return_, 1) := by decide +kernel
theorem dX2_add_0 : decode cX2_add 0 = .ok (.aload_n 0, 1) := by decide +kernel
theorem dX2_add_1 : decode cX2_add 1 = .ok (.getfield 22, 3) := by decide +kernel
theorem dX2_add_4 : decode cX2_add 4 = .ok (.bipush 40, 2) := by decide +kernel
theorem dX2_add_6 : decode cX2_add 6 = .ok (.if_icmp .lt 7, 3) := by decide +kernel
theorem dX2_add_9 : decode cX2_add 9 = .ok (.aload_n 0, 1) := by decide +kernel
theorem dX2_add_10 : decode cX2_add 10 = .ok (.invokevirtual 29, 3) := by decide +kernel
theorem dX2_add_13 : decode cX2_add 13 = .ok (.aload_n 0, 1) := by decide +kernel
theorem dX2_add_14 : decode cX2_add 14 = .ok (.getfield 9, 3) := by decide +kernel
theorem dX2_add_17 : decode cX2_add 17 = .ok (.aload_n 0, 1) := by decide +kernel
theorem dX2_add_18 : decode cX2_add 18 = .ok (.getfield 22, 3) := by decide +kernel
theorem dX2_add_21 : decode cX2_add 21 = .ok (.iload_n 1, 1) := by decide +kernel
theorem dX2_add_22 : decode cX2_add 22 = .ok (.iastore, 1) := by decide +kernel
theorem dX2_add_23 : decode cX2_add 23 = .ok (.aload_n 0, 1) := by decide +kernel
theorem dX2_add_24 : decode cX2_add 24 = .ok (.getfield 13, 3) := by decide +kernel
theorem dX2_add_27 : decode cX2_add 27 = .ok (.aload_n 0, 1) := by decide +kernel
theorem dX2_add_28 : decode cX2_add 28 = .ok (.getfield 22, 3) := by decide +kernel
theorem dX2_add_31 : decode cX2_add 31 = .ok (.iload_n 2, 1) := by decide +kernel
theorem dX2_add_32 : decode cX2_add 32 = .ok (.iastore, 1) := by decide +kernel
theorem dX2_add_33 : decode cX2_add 33 = .ok (.aload_n 0, 1) := by decide +kernel
theorem dX2_add_34 : decode cX2_add 34 = .ok (.getfield 16, 3) := by decide +kernel
theorem dX2_add_37 : decode cX2_add 37 = .ok (.aload_n 0, 1) := by decide +kernel
theorem dX2_add_38 : decode cX2_add 38 = .ok (.getfield 22, 3) := by decide +kernel
theorem dX2_add_41 : decode cX2_add 41 = .ok (.iload_n 3, 1) := by decide +kernel
theorem dX2_add_42 : decode cX2_add 42 = .ok (.iastore, 1) := by decide +kernel
theorem dX2_add_43 : decode cX2_add 43 = .ok (.aload_n 0, 1) := by decide +kernel
theorem dX2_add_44 : decode cX2_add 44 = .ok (.getfield 19, 3) := by decide +kernel
theorem dX2_add_47 : decode cX2_add 47 = .ok (.aload_n 0, 1) := by decide +kernel
theorem dX2_add_48 : decode cX2_add 48 = .ok (.getfield 22, 3) := by decide +kernel
theorem dX2_add_51 : decode cX2_add 51 = .ok (.iload 4, 2) := by decide +kernel
theorem dX2_add_53 : decode cX2_add 53 = .ok (.iastore, 1) := by decide +kernel
theorem dX2_add_54 : decode cX2_add 54 = .ok (.aload_n 0, 1) := by decide +kernel
theorem dX2_add_55 : decode cX2_add 55 = .ok (.dup, 1) := by decide +kernel
theorem dX2_add_56 : decode cX2_add 56 = .ok (.getfield 22, 3) := by decide +kernel
theorem dX2_add_59 : decode cX2_add 59 = .ok (.iconst 1, 1) := by decide +kernel
theorem dX2_add_60 : decode cX2_add 60 = .ok (.iadd, 1) := by decide +kernel
theorem dX2_add_61 : decode cX2_add 61 = .ok (.putfield 22, 3) := by decide +kernel
theorem dX2_add_64 : decode cX2_add 64 = .ok (.aload_n 0, 1) := by decide +kernel
theorem dX2_add_65 : decode cX2_add 65 = .ok (.aload_n 0, 1) := by decide +kernel
theorem dX2_add_66 : decode cX2_add 66 = .ok (.getfield 22, 3) := by decide +kernel
theorem dX2_add_69 : decode cX2_add 69 = .ok (.putfield 26, 3) := by decide +kernel
theorem dX2_add_72 : decode cX2_add 72 = .ok (.return_, 1) := by decide +kernel
theorem dX2_dropOldest_0 : decode cX2_dropOldest 0 = .ok (.bipush 39, 2) := by decide +kernel
theorem dX2_dropOldest_2 : decode cX2_dropOldest 2 = .ok (.istore_n 1, 1) := by decide +kernel
theorem dX2_dropOldest_3 : decode cX2_dropOldest 3 = .ok (.aload_n 0, 1) := by decide +kernel
theorem dX2_dropOldest_4 : decode cX2_dropOldest 4 = .ok (.getfield 9, 3) := by decide +kernel
theorem dX2_dropOldest_7 : decode cX2_dropOldest 7 = .ok (.iconst 1, 1) := by decide +kernel
theorem dX2_dropOldest_8 : decode cX2_dropOldest 8 = .ok (.aload_n 0, 1) := by decide +kernel
theorem dX2_dropOldest_9 : decode cX2_dropOldest 9 = .ok (.getfield 9, 3) := by decide +kernel
theorem dX2_dropOldest_12 : decode cX2_dropOldest 12 = .ok (.iconst 0, 1) := by decide +kernel
theorem dX2_dropOldest_13 : decode cX2_dropOldest 13 = .ok (.iload_n 1, 1) := by decide +kernel
theorem dX2_dropOldest_14 : decode cX2_dropOldest 14 = .ok (.invokestatic 32, 3) := by decide +kernel
theorem dX2_dropOldest_17 : decode cX2_dropOldest 17 = .ok (.aload_n 0, 1) := by decide +kernel
theorem dX2_dropOldest_18 : decode cX2_dropOldest 18 = .ok (.getfield 13, 3) := by decide +kernel
theorem dX2_dropOldest_21 : decode cX2_dropOldest 21 = .ok (.iconst 1, 1) := by decide +kernel
theorem dX2_dropOldest_22 : decode cX2_dropOldest 22 = .ok (.aload_n 0, 1) := by decide +kernel
theorem dX2_dropOldest_23 : decode cX2_dropOldest 23 = .ok (.getfield 13, 3) := by decide +kernel
theorem dX2_dropOldest_26 : decode cX2_dropOldest 26 = .ok (.iconst 0, 1) := by decide +kernel
theorem dX2_dropOldest_27 : decode cX2_dropOldest 27 = .ok (.iload_n 1, 1) := by decide +kernel
theorem dX2_dropOldest_28 : decode cX2_dropOldest 28 = .ok (.invokestatic 32, 3) := by decide +kernel
theorem dX2_dropOldest_31 : decode cX2_dropOldest 31 = .ok (.aload_n 0, 1) := by decide +kernel
theorem dX2_dropOldest_32 : decode cX2_dropOldest 32 = .ok (.getfield 16, 3) := by decide +kernel
theorem dX2_dropOldest_35 : decode cX2_dropOldest 35 = .ok (.iconst 1, 1) := by decide +kernel
theorem dX2_dropOldest_36 : decode cX2_dropOldest 36 = .ok (.aload_n 0, 1) := by decide +kernel
theorem dX2_dropOldest_37 : decode cX2_dropOldest 37 = .ok (.getfield 16, 3) := by decide +kernel
theorem dX2_dropOldest_40 : decode cX2_dropOldest 40 = .ok (.iconst 0, 1) := by decide +kernel
theorem dX2_dropOldest_41 : decode cX2_dropOldest 41 = .ok (.iload_n 1, 1) := by decide +kernel
theorem dX2_dropOldest_42 : decode cX2_dropOldest 42 = .ok (.invokestatic 32, 3) := by decide +kernel
theorem dX2_dropOldest_45 : decode cX2_dropOldest 45 = .ok (.aload_n 0, 1) := by decide +kernel
theorem dX2_dropOldest_46 : decode cX2_dropOldest 46 = .ok (.getfield 19, 3) := by decide +kernel
theorem dX2_dropOldest_49 : decode cX2_dropOldest 49 = .ok (.iconst 1, 1) := by decide +kernel
theorem dX2_dropOldest_50 : decode cX2_dropOldest 50 = .ok (.aload_n 0, 1) := by decide +kernel
theorem dX2_dropOldest_51 : decode cX2_dropOldest 51 = .ok (.getfield 19, 3) := by decide +kernel
theorem dX2_dropOldest_54 : decode cX2_dropOldest 54 = .ok (.iconst 0, 1) := by decide +kernel
theorem dX2_dropOldest_55 : decode cX2_dropOldest 55 = .ok (.iload_n 1, 1) := by decide +kernel
theorem dX2_dropOldest_56 : decode cX2_dropOldest 56 = .ok (.invokestatic 32, 3) := by decide +kernel
theorem dX2_dropOldest_59 : decode cX2_dropOldest 59 = .ok (.aload_n 0, 1) := by decide +kernel
theorem dX2_dropOldest_60 : decode cX2_dropOldest 60 = .ok (.iload_n 1, 1) := by decide +kernel
theorem dX2_dropOldest_61 : decode cX2_dropOldest 61 = .ok (.putfield 22, 3) := by decide +kernel
theorem dX2_dropOldest_64 : decode cX2_dropOldest 64 = .ok (.return_, 1) := by decide +kernel
theorem dX2_undoIn_0 : decode cX2_undoIn 0 = .ok (.aload_n 0, 1) := by decide +kernel
theorem dX2_undoIn_1 : decode cX2_undoIn 1 = .ok (.getfield 22, 3) := by decide +kernel
theorem dX2_undoIn_4 : decode cX2_undoIn 4 = .ok (.iconst 1, 1) := by decide +kernel
theorem dX2_undoIn_5 : decode cX2_undoIn 5 = .ok (.if_icmp .lt 12, 3) := by decide +kernel
theorem dX2_undoIn_8 : decode cX2_undoIn 8 = .ok (.aload_n 0, 1) := by decide +kernel
theorem dX2_undoIn_9 : decode cX2_undoIn 9 = .ok (.getfield 22, 3) := by decide +kernel
theorem dX2_undoIn_12 : decode cX2_undoIn 12 = .ok (.bipush 40, 2) := by decide +kernel
theorem dX2_undoIn_14 : decode cX2_undoIn 14 = .ok (.if_icmp .le 5, 3) := by decide +kernel
theorem dX2_undoIn_17 : decode cX2_undoIn 17 = .ok (.iconst 0, 1) := by decide +kernel
theorem dX2_undoIn_18 : decode cX2_undoIn 18 = .ok (.ireturn, 1) := by decide +kernel
theorem dX2_undoIn_19 : decode cX2_undoIn 19 = .ok (.aload_n 0, 1) := by decide +kernel
theorem dX2_undoIn_20 : decode cX2_undoIn 20 = .ok (.dup, 1) := by decide +kernel
theorem dX2_undoIn_21 : decode cX2_undoIn 21 = .ok (.getfield 22, 3) := by decide +kernel
theorem dX2_undoIn_24 : decode cX2_undoIn 24 = .ok (.iconst 1, 1) := by decide +kernel
theorem dX2_undoIn_25 : decode cX2_undoIn 25 = .ok (.isub, 1) := by decide +kernel
theorem dX2_undoIn_26 : decode cX2_undoIn 26 = .ok (.putfield 22, 3) := by decide +kernel
theorem dX2_undoIn_29 : decode cX2_undoIn 29 = .ok (.aload_n 1, 1) := by decide +kernel
theorem dX2_undoIn_30 : decode cX2_undoIn 30 = .ok (.aload_n 0, 1) := by decide +kernel
theorem dX2_undoIn_31 : decode cX2_undoIn 31 = .ok (.getfield 9, 3) := by decide +kernel
theorem dX2_undoIn_34 : decode cX2_undoIn 34 = .ok (.aload_n 0, 1) := by decide +kernel
theorem dX2_undoIn_35 : decode cX2_undoIn 35 = .ok (.getfield 22, 3) := by decide +kernel
theorem dX2_undoIn_38 : decode cX2_undoIn 38 = .ok (.iaload, 1) := by decide +kernel
theorem dX2_undoIn_39 : decode cX2_undoIn 39 = .ok (.aload_n 0, 1) := by decide +kernel
theorem dX2_undoIn_40 : decode cX2_undoIn 40 = .ok (.getfield 13, 3) := by decide +kernel
theorem dX2_undoIn_43 : decode cX2_undoIn 43 = .ok (.aload_n 0, 1) := by decide +kernel
theorem dX2_undoIn_44 : decode cX2_undoIn 44 = .ok (.getfield 22, 3) := by decide +kernel
theorem dX2_undoIn_47 : decode cX2_undoIn 47 = .ok (.iaload, 1) := by decide +kernel
theorem dX2_undoIn_48 : decode cX2_undoIn 48 = .ok (.aload_n 0, 1) := by decide +kernel
theorem dX2_undoIn_49 : decode cX2_undoIn 49 = .ok (.getfield 16, 3) := by decide +kernel
theorem dX2_undoIn_52 : decode cX2_undoIn 52 = .ok (.aload_n 0, 1) := by decide +kernel
theorem dX2_undoIn_53 : decode cX2_undoIn 53 = .ok (.getfield 22, 3) := by decide +kernel
theorem dX2_undoIn_56 : decode cX2_undoIn 56 = .ok (.iaload, 1) := by decide +kernel
theorem dX2_undoIn_57 : decode cX2_undoIn 57 = .ok (.invokevirtual 38, 3) := by decide +kernel
theorem dX2_undoIn_60 : decode cX2_undoIn 60 = .ok (.iconst 1, 1) := by decide +kernel
theorem dX2_undoIn_61 : decode cX2_undoIn 61 = .ok (.ireturn, 1) := by decide +kernel
theorem dX2_redoIn_0 : decode cX2_redoIn 0 = .ok (.aload_n 0, 1) := by decide +kernel
theorem dX2_redoIn_1 : decode cX2_redoIn 1 = .ok (.getfield 22, 3) := by decide +kernel
theorem dX2_redoIn_4 : decode cX2_redoIn 4 = .ok (.ifCond .lt 23, 3) := by decide +kernel
theorem dX2_redoIn_7 : decode cX2_redoIn 7 = .ok (.aload_n 0, 1) := by decide +kernel
theorem dX2_redoIn_8 : decode cX2_redoIn 8 = .ok (.getfield 22, 3) := by decide +kernel
theorem dX2_redoIn_11 : decode cX2_redoIn 11 = .ok (.aload_n 0, 1) := by decide +kernel
theorem dX2_redoIn_12 : decode cX2_redoIn 12 = .ok (.getfield 26, 3) := by decide +kernel
theorem dX2_redoIn_15 : decode cX2_redoIn 15 = .ok (.if_icmp .ge 12, 3) := by decide +kernel
theorem dX2_redoIn_18 : decode cX2_redoIn 18 = .ok (.aload_n 0, 1) := by decide +kernel
theorem dX2_redoIn_19 : decode cX2_redoIn 19 = .ok (.getfield 22, 3) := by decide +kernel
theorem dX2_redoIn_22 : decode cX2_redoIn 22 = .ok (.bipush 40, 2) := by decide +kernel
theorem dX2_redoIn_24 : decode cX2_redoIn 24 = .ok (.if_icmp .lt 5, 3) := by decide +kernel
theorem dX2_redoIn_27 : decode cX2_redoIn 27 = .ok (.iconst 0, 1) := by decide +kernel
theorem dX2_redoIn_28 : decode cX2_redoIn 28 = .ok (.ireturn, 1) := by decide +kernel
theorem dX2_redoIn_29 : decode cX2_redoIn 29 = .ok (.aload_n 1, 1) := by decide +kernel
theorem dX2_redoIn_30 : decode cX2_redoIn 30 = .ok (.aload_n 0, 1) := by decide +kernel
theorem dX2_redoIn_31 : decode cX2_redoIn 31 = .ok (.getfield 9, 3) := by decide +kernel
theorem dX2_redoIn_34 : decode cX2_redoIn 34 = .ok (.aload_n 0, 1) := by decide +kernel
theorem dX2_redoIn_35 : decode cX2_redoIn 35 = .ok (.getfield 22, 3) := by decide +kernel
theorem dX2_redoIn_38 : decode cX2_redoIn 38 = .ok (.iaload, 1) := by decide +kernel
theorem dX2_redoIn_39 : decode cX2_redoIn 39 = .ok (.aload_n 0, 1) := by decide +kernel
theorem dX2_redoIn_40 : decode cX2_redoIn 40 = .ok (.getfield 13, 3) := by decide +kernel
theorem dX2_redoIn_43 : decode cX2_redoIn 43 = .ok (.aload_n 0, 1) := by decide +kernel
theorem dX2_redoIn_44 : decode cX2_redoIn 44 = .ok (.getfield 22, 3) := by decide +kernel
theorem dX2_redoIn_47 : decode cX2_redoIn 47 = .ok (.iaload, 1) := by decide +kernel
theorem dX2_redoIn_48 : decode cX2_redoIn 48 = .ok (.aload_n 0, 1) := by decide +kernel
theorem dX2_redoIn_49 : decode cX2_redoIn 49 = .ok (.getfield 19, 3) := by decide +kernel
theorem dX2_redoIn_52 : decode cX2_redoIn 52 = .ok (.aload_n 0, 1) := by decide +kernel
theorem dX2_redoIn_53 : decode cX2_redoIn 53 = .ok (.getfield 22, 3) := by decide +kernel
theorem dX2_redoIn_56 : decode cX2_redoIn 56 = .ok (.iaload, 1) := by decide +kernel
theorem dX2_redoIn_57 : decode cX2_redoIn 57 = .ok (.invokevirtual 38, 3) := by decide +kernel
theorem dX2_redoIn_60 : decode cX2_redoIn 60 = .ok (.aload_n 0, 1) := by decide +kernel
theorem dX2_redoIn_61 : decode cX2_redoIn 61 = .ok (.dup, 1) := by decide +kernel
theorem dX2_redoIn_62 : decode cX2_redoIn 62 = .ok (.getfield 22, 3) := by decide +kernel
theorem dX2_redoIn_65 : decode cX2_redoIn 65 = .ok (.iconst 1, 1) := by decide +kernel
theorem dX2_redoIn_66 : decode cX2_redoIn 66 = .ok (.iadd, 1) := by decide +kernel
theorem dX2_redoIn_67 : decode cX2_redoIn 67 = .ok (.putfield 22, 3) := by decide +kernel
theorem dX2_redoIn_70 : decode cX2_redoIn 70 = .ok (.iconst 1, 1) := by decide +kernel
theorem dX2_redoIn_71 : decode cX2_redoIn 71 = .ok (.ireturn, 1) := by decide +kernel
theorem dX3_init_0 : decode cX3_init 0 = .ok (.aload_n 0, 1) := by decide +kernel
theorem dX3_init_1 : decode cX3_init 1 = .ok (.invokespecial 3, 3) := by decide +kernel
theorem dX3_init_4 : decode cX3_init 4 = .ok (.aload_n 0, 1) := by decide +kernel
theorem dX3_init_5 : decode cX3_init 5 = .ok (.aload_n 1, 1) := by decide +kernel
theorem dX3_init_6 : decode cX3_init 6 = .ok (.putfield 9, 3) := by decide +kernel
theorem dX3_init_9 : decode cX3_init 9 = .ok (.aload_n 0, 1) := by decide +kernel
theorem dX3_init_10 : decode cX3_init 10 = .ok (.aload_n 2, 1) := by decide +kernel
theorem dX3_init_11 : decode cX3_init 11 = .ok (.putfield 15, 3) := by decide +kernel
theorem dX3_init_14 : decode cX3_init 14 = .ok (.aload_n 0, 1) := by decide +kernel
theorem dX3_init_15 : decode cX3_init 15 = .ok (.iconst 0, 1) := by decide +kernel
theorem dX3_init_16 : decode cX3_init 16 = .ok (.putfield 19, 3) := by decide +kernel
theorem dX3_init_19 : decode cX3_init 19 = .ok (.aload_n 0, 1) := by decide +kernel
theorem dX3_init_20 : decode cX3_init 20 = .ok (.iconst 0, 1) := by decide +kernel
theorem dX3_init_21 : decode cX3_init 21 = .ok (.putfield 23, 3) := by decide +kernel
theorem dX3_init_24 : decode cX3_init 24 = .ok (.aload_n 0, 1) := by decide +kernel
theorem dX3_init_25 : decode cX3_init 25 = .ok (.iconst 0, 1) := by decide +kernel
theorem dX3_init_26 : decode cX3_init 26 = .ok (.putfield 26, 3) := by decide +kernel
theorem dX3_init_29 : decode cX3_init 29 = .ok (.aload_n 0, 1) := by decide +kernel
theorem dX3_init_30 : decode cX3_init 30 = .ok (.iconst 0, 1) := by decide +kernel
theorem dX3_init_31 : decode cX3_init 31 = .ok (.putfield 29, 3) := by decide +kernel
theorem dX3_init_34 : decode cX3_init 34 = .ok (.return_, 1) := by decide +kernel
theorem dX3_layStrength_0 : decode cX3_layStrength 0 = .ok (.aload_n 0, 1) := by decide +kernel
theorem dX3_layStrength_1 : decode cX3_layStrength 1 = .ok (.getfield 9, 3) := by decide +kernel
theorem dX3_layStrength_4 : decode cX3_layStrength 4 = .ok (.getfield 33, 3) := by decide +kernel
theorem dX3_layStrength_7 : decode cX3_layStrength 7 = .ok (.iconst 0, 1) := by decide +kernel
theorem dX3_layStrength_8 : decode cX3_layStrength 8 = .ok (.aaload, 1) := by decide +kernel
theorem dX3_layStrength_9 : decode cX3_layStrength 9 = .ok (.iconst 0, 1) := by decide +kernel
theorem dX3_layStrength_10 : decode cX3_layStrength 10 = .ok (.aload_n 1, 1) := by decide +kernel
theorem dX3_layStrength_11 : decode cX3_layStrength 11 = .ok (.getfield 39, 3) := by decide +kernel
theorem dX3_layStrength_14 : decode cX3_layStrength 14 = .ok (.iconst 0, 1) := by decide +kernel
theorem dX3_layStrength_15 : decode cX3_layStrength 15 = .ok (.bipush 24, 2) := by decide +kernel
theorem dX3_layStrength_17 : decode cX3_layStrength 17 = .ok (.invokestatic 45, 3) := by decide +kernel
theorem dX3_layStrength_20 : decode cX3_layStrength 20 = .ok (.return_, 1) := by decide +kernel
theorem dX3_follow_0 : decode cX3_follow 0 = .ok (.aload_n 2, 1) := by decide +kernel
theorem dX3_follow_1 : decode cX3_follow 1 = .ok (.getfield 51, 3) := by decide +kernel
theorem dX3_follow_4 : decode cX3_follow 4 = .ok (.iconst 0, 1) := by decide +kernel
theorem dX3_follow_5 : decode cX3_follow 5 = .ok (.aload_n 1, 1) := by decide +kernel
theorem dX3_follow_6 : decode cX3_follow 6 = .ok (.getfield 51, 3) := by decide +kernel
theorem dX3_follow_9 : decode cX3_follow 9 = .ok (.iconst 0, 1) := by decide +kernel
theorem dX3_follow_10 : decode cX3_follow 10 = .ok (.bipush 24, 2) := by decide +kernel
theorem dX3_follow_12 : decode cX3_follow 12 = .ok (.invokestatic 45, 3) := by decide +kernel
theorem dX3_follow_15 : decode cX3_follow 15 = .ok (.aload_n 1, 1) := by decide +kernel
theorem dX3_follow_16 : decode cX3_follow 16 = .ok (.aload_n 2, 1) := by decide +kernel
theorem dX3_follow_17 : decode cX3_follow 17 = .ok (.getfield 54, 3) := by decide +kernel
theorem dX3_follow_20 : decode cX3_follow 20 = .ok (.putfield 54, 3) := by decide +kernel
theorem dX3_follow_23 : decode cX3_follow 23 = .ok (.aload_n 0, 1) := by decide +kernel
theorem dX3_follow_24 : decode cX3_follow 24 = .ok (.aload_n 1, 1) := by decide +kernel
theorem dX3_follow_25 : decode cX3_follow 25 = .ok (.invokevirtual 57, 3) := by decide +kernel
theorem dX3_follow_28 : decode cX3_follow 28 = .ok (.return_, 1) := by decide +kernel
theorem dX3_thin_0 : decode cX3_thin 0 = .ok (.iload_n 2, 1) := by decide +kernel
theorem dX3_thin_1 : decode cX3_thin 1 = .ok (.invokestatic 61, 3) := by decide +kernel
theorem dX3_thin_4 : decode cX3_thin 4 = .ok (.ifCond .eq 21, 3) := by decide +kernel
theorem dX3_thin_7 : decode cX3_thin 7 = .ok (.aload_n 1, 1) := by decide +kernel
theorem dX3_thin_8 : decode cX3_thin 8 = .ok (.getfield 39, 3) := by decide +kernel
theorem dX3_thin_11 : decode cX3_thin 11 = .ok (.iload_n 2, 1) := by decide +kernel
theorem dX3_thin_12 : decode cX3_thin 12 = .ok (.dup2, 1) := by decide +kernel
theorem dX3_thin_13 : decode cX3_thin 13 = .ok (.iaload, 1) := by decide +kernel
theorem dX3_thin_14 : decode cX3_thin 14 = .ok (.aload_n 0, 1) := by decide +kernel
theorem dX3_thin_15 : decode cX3_thin 15 = .ok (.getfield 9, 3) := by decide +kernel
theorem dX3_thin_18 : decode cX3_thin 18 = .ok (.iload_n 2, 1) := by decide +kernel
theorem dX3_thin_19 : decode cX3_thin 19 = .ok (.iconst 3, 1) := by decide +kernel
theorem dX3_thin_20 : decode cX3_thin 20 = .ok (.invokevirtual 65, 3) := by decide +kernel
theorem dX3_thin_23 : decode cX3_thin 23 = .ok (.isub, 1) := by decide +kernel
theorem dX3_thin_24 : decode cX3_thin 24 = .ok (.iastore, 1) := by decide +kernel
theorem dX3_thin_25 : decode cX3_thin 25 = .ok (.return_, 1) := by decide +kernel
theorem dX3_draw_0 : decode cX3_draw 0 = .ok (.iload_n 3, 1) := by decide +kernel
theorem dX3_draw_1 : decode cX3_draw 1 = .ok (.istore 4, 2) := by decide +kernel
theorem dX3_draw_3 : decode cX3_draw 3 = .ok (.iconst 0, 1) := by decide +kernel
theorem dX3_draw_4 : decode cX3_draw 4 = .ok (.istore 5, 2) := by decide +kernel
theorem dX3_draw_6 : decode cX3_draw 6 = .ok (.iload 5, 2) := by decide +kernel
theorem dX3_draw_8 : decode cX3_draw 8 = .ok (.bipush 8, 2) := by decide +kernel
theorem dX3_draw_10 : decode cX3_draw 10 = .ok (.if_icmp .ge 57, 3) := by decide +kernel
theorem dX3_draw_13 : decode cX3_draw 13 = .ok (.iload_n 2, 1) := by decide +kernel
theorem dX3_draw_14 : decode cX3_draw 14 = .ok (.bipush 8, 2) := by decide +kernel
theorem dX3_draw_16 : decode cX3_draw 16 = .ok (.imul, 1) := by decide +kernel
theorem dX3_draw_17 : decode cX3_draw 17 = .ok (.iload 5, 2) := by decide +kernel
theorem dX3_draw_19 : decode cX3_draw 19 = .ok (.iadd, 1) := by decide +kernel
theorem dX3_draw_20 : decode cX3_draw 20 = .ok (.istore 6, 2) := by decide +kernel
theorem dX3_draw_22 : decode cX3_draw 22 = .ok (.iload 4, 2) := by decide +kernel
theorem dX3_draw_24 : decode cX3_draw 24 = .ok (.ldc 69, 2) := by decide +kernel
theorem dX3_draw_26 : decode cX3_draw 26 = .ok (.imul, 1) := by decide +kernel
theorem dX3_draw_27 : decode cX3_draw 27 = .ok (.sipush 12345, 3) := by decide +kernel
theorem dX3_draw_30 : decode cX3_draw 30 = .ok (.iadd, 1) := by decide +kernel
theorem dX3_draw_31 : decode cX3_draw 31 = .ok (.istore 4, 2) := by decide +kernel
theorem dX3_draw_33 : decode cX3_draw 33 = .ok (.iload 4, 2) := by decide +kernel
theorem dX3_draw_35 : decode cX3_draw 35 = .ok (.bipush 8, 2) := by decide +kernel
theorem dX3_draw_37 : decode cX3_draw 37 = .ok (.iushr, 1) := by decide +kernel
theorem dX3_draw_38 : decode cX3_draw 38 = .ok (.bipush 12, 2) := by decide +kernel
theorem dX3_draw_40 : decode cX3_draw 40 = .ok (.irem, 1) := by decide +kernel
theorem dX3_draw_41 : decode cX3_draw 41 = .ok (.aload_n 0, 1) := by decide +kernel
theorem dX3_draw_42 : decode cX3_draw 42 = .ok (.getfield 9, 3) := by decide +kernel
theorem dX3_draw_45 : decode cX3_draw 45 = .ok (.iload 6, 2) := by decide +kernel
theorem dX3_draw_47 : decode cX3_draw 47 = .ok (.iconst 2, 1) := by decide +kernel
theorem dX3_draw_48 : decode cX3_draw 48 = .ok (.invokevirtual 65, 3) := by decide +kernel
theorem dX3_draw_51 : decode cX3_draw 51 = .ok (.if_icmp .ge 10, 3) := by decide +kernel
theorem dX3_draw_54 : decode cX3_draw 54 = .ok (.aload_n 0, 1) := by decide +kernel
theorem dX3_draw_55 : decode cX3_draw 55 = .ok (.aload_n 1, 1) := by decide +kernel
theorem dX3_draw_56 : decode cX3_draw 56 = .ok (.iload 6, 2) := by decide +kernel
theorem dX3_draw_58 : decode cX3_draw 58 = .ok (.invokevirtual 70, 3) := by decide +kernel
theorem dX3_draw_61 : decode cX3_draw 61 = .ok (.iinc 5 1, 3) := by decide +kernel
theorem dX3_draw_64 : decode cX3_draw 64 = .ok (.goto (-58), 3) := by decide +kernel
theorem dX3_draw_67 : decode cX3_draw 67 = .ok (.iload 4, 2) := by decide +kernel
theorem dX3_draw_69 : decode cX3_draw 69 = .ok (.ireturn, 1) := by decide +kernel
theorem dX3_bearing_0 : decode cX3_bearing 0 = .ok (.iload_n 2, 1) := by decide +kernel
theorem dX3_bearing_1 : decode cX3_bearing 1 = .ok (.invokestatic 61, 3) := by decide +kernel
theorem dX3_bearing_4 : decode cX3_bearing 4 = .ok (.ifCond .ne 5, 3) := by decide +kernel
theorem dX3_bearing_7 : decode cX3_bearing 7 = .ok (.iconst 0, 1) := by decide +kernel
theorem dX3_bearing_8 : decode cX3_bearing 8 = .ok (.ireturn, 1) := by decide +kernel
theorem dX3_bearing_9 : decode cX3_bearing 9 = .ok (.iconst 0, 1) := by decide +kernel
theorem dX3_bearing_10 : decode cX3_bearing 10 = .ok (.aload_n 1, 1) := by decide +kernel
theorem dX3_bearing_11 : decode cX3_bearing 11 = .ok (.getfield 51, 3) := by decide +kernel
theorem dX3_bearing_14 : decode cX3_bearing 14 = .ok (.iload_n 2, 1) := by decide +kernel
theorem dX3_bearing_15 : decode cX3_bearing 15 = .ok (.iaload, 1) := by decide +kernel
theorem dX3_bearing_16 : decode cX3_bearing 16 = .ok (.iload_n 3, 1) := by decide +kernel
theorem dX3_bearing_17 : decode cX3_bearing 17 = .ok (.aload_n 0, 1) := by decide +kernel
theorem dX3_bearing_18 : decode cX3_bearing 18 = .ok (.getfield 9, 3) := by decide +kernel
theorem dX3_bearing_21 : decode cX3_bearing 21 = .ok (.iload_n 2, 1) := by decide +kernel
theorem dX3_bearing_22 : decode cX3_bearing 22 = .ok (.iconst 1, 1) := by decide +kernel
theorem dX3_bearing_23 : decode cX3_bearing 23 = .ok (.invokevirtual 65, 3) := by decide +kernel
theorem dX3_bearing_26 : decode cX3_bearing 26 = .ok (.imul, 1) := by decide +kernel
theorem dX3_bearing_27 : decode cX3_bearing 27 = .ok (.isub, 1) := by decide +kernel
theorem dX3_bearing_28 : decode cX3_bearing 28 = .ok (.invokestatic 74, 3) := by decide +kernel
theorem dX3_bearing_31 : decode cX3_bearing 31 = .ok (.istore 4, 2) := by decide +kernel
theorem dX3_bearing_33 : decode cX3_bearing 33 = .ok (.iconst 0, 1) := by decide +kernel
theorem dX3_bearing_34 : decode cX3_bearing 34 = .ok (.aload_n 1, 1) := by decide +kernel
theorem dX3_bearing_35 : decode cX3_bearing 35 = .ok (.getfield 54, 3) := by decide +kernel
theorem dX3_bearing_38 : decode cX3_bearing 38 = .ok (.iload_n 3, 1) := by decide +kernel
theorem dX3_bearing_39 : decode cX3_bearing 39 = .ok (.iadd, 1) := by decide +kernel
theorem dX3_bearing_40 : decode cX3_bearing 40 = .ok (.aload_n 0, 1) := by decide +kernel
theorem dX3_bearing_41 : decode cX3_bearing 41 = .ok (.getfield 9, 3) := by decide +kernel
theorem dX3_bearing_44 : decode cX3_bearing 44 = .ok (.iconst 0, 1) := by decide +kernel
theorem dX3_bearing_45 : decode cX3_bearing 45 = .ok (.bipush 8, 2) := by decide +kernel
theorem dX3_bearing_47 : decode cX3_bearing 47 = .ok (.invokevirtual 65, 3) := by decide +kernel
theorem dX3_bearing_50 : decode cX3_bearing 50 = .ok (.isub, 1) := by decide +kernel
theorem dX3_bearing_51 : decode cX3_bearing 51 = .ok (.invokestatic 74, 3) := by decide +kernel
theorem dX3_bearing_54 : decode cX3_bearing 54 = .ok (.istore 5, 2) := by decide +kernel
theorem dX3_bearing_56 : decode cX3_bearing 56 = .ok (.iconst 0, 1) := by decide +kernel
theorem dX3_bearing_57 : decode cX3_bearing 57 = .ok (.aload_n 1, 1) := by decide +kernel
theorem dX3_bearing_58 : decode cX3_bearing 58 = .ok (.getfield 39, 3) := by decide +kernel
theorem dX3_bearing_61 : decode cX3_bearing 61 = .ok (.iload_n 2, 1) := by decide +kernel
theorem dX3_bearing_62 : decode cX3_bearing 62 = .ok (.iaload, 1) := by decide +kernel
theorem dX3_bearing_63 : decode cX3_bearing 63 = .ok (.iload 4, 2) := by decide +kernel
theorem dX3_bearing_65 : decode cX3_bearing 65 = .ok (.isub, 1) := by decide +kernel
theorem dX3_bearing_66 : decode cX3_bearing 66 = .ok (.iload 5, 2) := by decide +kernel
theorem dX3_bearing_68 : decode cX3_bearing 68 = .ok (.isub, 1) := by decide +kernel
theorem dX3_bearing_69 : decode cX3_bearing 69 = .ok (.invokestatic 74, 3) := by decide +kernel
theorem dX3_bearing_72 : decode cX3_bearing 72 = .ok (.ireturn, 1) := by decide +kernel
theorem dX3_ready_0 : decode cX3_ready 0 = .ok (.aload_n 0, 1) := by decide +kernel
theorem dX3_ready_1 : decode cX3_ready 1 = .ok (.aload_n 0, 1) := by decide +kernel
theorem dX3_ready_2 : decode cX3_ready 2 = .ok (.getfield 9, 3) := by decide +kernel
theorem dX3_ready_5 : decode cX3_ready 5 = .ok (.iload_n 1, 1) := by decide +kernel
theorem dX3_ready_6 : decode cX3_ready 6 = .ok (.iconst 5, 1) := by decide +kernel
theorem dX3_ready_7 : decode cX3_ready 7 = .ok (.invokevirtual 65, 3) := by decide +kernel
theorem dX3_ready_10 : decode cX3_ready 10 = .ok (.ifCond .eq 7, 3) := by decide +kernel
theorem dX3_ready_13 : decode cX3_ready 13 = .ok (.iconst 1, 1) := by decide +kernel
theorem dX3_ready_14 : decode cX3_ready 14 = .ok (.goto 4, 3) := by decide +kernel
theorem dX3_ready_17 : decode cX3_ready 17 = .ok (.iconst 0, 1) := by decide +kernel
theorem dX3_ready_18 : decode cX3_ready 18 = .ok (.putfield 29, 3) := by decide +kernel
theorem dX3_ready_21 : decode cX3_ready 21 = .ok (.aload_n 0, 1) := by decide +kernel
theorem dX3_ready_22 : decode cX3_ready 22 = .ok (.getfield 9, 3) := by decide +kernel
theorem dX3_ready_25 : decode cX3_ready 25 = .ok (.iload_n 1, 1) := by decide +kernel
theorem dX3_ready_26 : decode cX3_ready 26 = .ok (.iconst 4, 1) := by decide +kernel
theorem dX3_ready_27 : decode cX3_ready 27 = .ok (.invokevirtual 65, 3) := by decide +kernel
theorem dX3_ready_30 : decode cX3_ready 30 = .ok (.iload_n 2, 1) := by decide +kernel
theorem dX3_ready_31 : decode cX3_ready 31 = .ok (.iadd, 1) := by decide +kernel
theorem dX3_ready_32 : decode cX3_ready 32 = .ok (.istore_n 3, 1) := by decide +kernel
theorem dX3_ready_33 : decode cX3_ready 33 = .ok (.aload_n 0, 1) := by decide +kernel
theorem dX3_ready_34 : decode cX3_ready 34 = .ok (.aload_n 0, 1) := by decide +kernel
theorem dX3_ready_35 : decode cX3_ready 35 = .ok (.getfield 29, 3) := by decide +kernel
theorem dX3_ready_38 : decode cX3_ready 38 = .ok (.ifCond .eq 11, 3) := by decide +kernel
theorem dX3_ready_41 : decode cX3_ready 41 = .ok (.iload_n 3, 1) := by decide +kernel
theorem dX3_ready_42 : decode cX3_ready 42 = .ok (.iconst 1, 1) := by decide +kernel
theorem dX3_ready_43 : decode cX3_ready 43 = .ok (.iadd, 1) := by decide +kernel
theorem dX3_ready_44 : decode cX3_ready 44 = .ok (.iconst 2, 1) := by decide +kernel
theorem dX3_ready_45 : decode cX3_ready 45 = .ok (.idiv, 1) := by decide +kernel
theorem dX3_ready_46 : decode cX3_ready 46 = .ok (.goto 4, 3) := by decide +kernel
theorem dX3_ready_49 : decode cX3_ready 49 = .ok (.iload_n 3, 1) := by decide +kernel
theorem dX3_ready_50 : decode cX3_ready 50 = .ok (.putfield 19, 3) := by decide +kernel
theorem dX3_ready_53 : decode cX3_ready 53 = .ok (.aload_n 0, 1) := by decide +kernel
theorem dX3_ready_54 : decode cX3_ready 54 = .ok (.aload_n 0, 1) := by decide +kernel
theorem dX3_ready_55 : decode cX3_ready 55 = .ok (.getfield 9, 3) := by decide +kernel
theorem dX3_ready_58 : decode cX3_ready 58 = .ok (.iload_n 1, 1) := by decide +kernel
theorem dX3_ready_59 : decode cX3_ready 59 = .ok (.bipush 6, 2) := by decide +kernel
theorem dX3_ready_61 : decode cX3_ready 61 = .ok (.invokevirtual 65, 3) := by decide +kernel
theorem dX3_ready_64 : decode cX3_ready 64 = .ok (.iload_n 2, 1) := by decide +kernel
theorem dX3_ready_65 : decode cX3_ready 65 = .ok (.iconst 4, 1) := by decide +kernel
theorem dX3_ready_66 : decode cX3_ready 66 = .ok (.idiv, 1) := by decide +kernel
theorem dX3_ready_67 : decode cX3_ready 67 = .ok (.iadd, 1) := by decide +kernel
theorem dX3_ready_68 : decode cX3_ready 68 = .ok (.putfield 23, 3) := by decide +kernel
theorem dX3_ready_71 : decode cX3_ready 71 = .ok (.aload_n 0, 1) := by decide +kernel
theorem dX3_ready_72 : decode cX3_ready 72 = .ok (.aload_n 0, 1) := by decide +kernel
theorem dX3_ready_73 : decode cX3_ready 73 = .ok (.getfield 9, 3) := by decide +kernel
theorem dX3_ready_76 : decode cX3_ready 76 = .ok (.iload_n 1, 1) := by decide +kernel
theorem dX3_ready_77 : decode cX3_ready 77 = .ok (.bipush 7, 2) := by decide +kernel
theorem dX3_ready_79 : decode cX3_ready 79 = .ok (.invokevirtual 65, 3) := by decide +kernel
theorem dX3_ready_82 : decode cX3_ready 82 = .ok (.putfield 26, 3) := by decide +kernel
theorem dX3_ready_85 : decode cX3_ready 85 = .ok (.return_, 1) := by decide +kernel
theorem dX3_weaker_0 : decode cX3_weaker 0 = .ok (.aload_n 0, 1) := by decide +kernel
theorem dX3_weaker_1 : decode cX3_weaker 1 = .ok (.getfield 29, 3) := by decide +kernel
theorem dX3_weaker_4 : decode cX3_weaker 4 = .ok (.ifCond .eq 12, 3) := by decide +kernel
theorem dX3_weaker_7 : decode cX3_weaker 7 = .ok (.aload_n 0, 1) := by decide +kernel
theorem dX3_weaker_8 : decode cX3_weaker 8 = .ok (.getfield 23, 3) := by decide +kernel
theorem dX3_weaker_11 : decode cX3_weaker 11 = .ok (.iconst 2, 1) := by decide +kernel
theorem dX3_weaker_12 : decode cX3_weaker 12 = .ok (.idiv, 1) := by decide +kernel
theorem dX3_weaker_13 : decode cX3_weaker 13 = .ok (.goto 7, 3) := by decide +kernel
theorem dX3_weaker_16 : decode cX3_weaker 16 = .ok (.aload_n 0, 1) := by decide +kernel
theorem dX3_weaker_17 : decode cX3_weaker 17 = .ok (.getfield 23, 3) := by decide +kernel
theorem dX3_weaker_20 : decode cX3_weaker 20 = .ok (.istore 4, 2) := by decide +kernel
theorem dX3_weaker_22 : decode cX3_weaker 22 = .ok (.aload_n 0, 1) := by decide +kernel
theorem dX3_weaker_23 : decode cX3_weaker 23 = .ok (.getfield 15, 3) := by decide +kernel
theorem dX3_weaker_26 : decode cX3_weaker 26 = .ok (.invokevirtual 79, 3) := by decide +kernel
theorem dX3_weaker_29 : decode cX3_weaker 29 = .ok (.ifCond .eq 40, 3) := by decide +kernel
theorem dX3_weaker_32 : decode cX3_weaker 32 = .ok (.aload_n 0, 1) := by decide +kernel
theorem dX3_weaker_33 : decode cX3_weaker 33 = .ok (.getfield 15, 3) := by decide +kernel
theorem dX3_weaker_36 : decode cX3_weaker 36 = .ok (.aload_n 0, 1) := by decide +kernel
theorem dX3_weaker_37 : decode cX3_weaker 37 = .ok (.getfield 19, 3) := by decide +kernel
theorem dX3_weaker_40 : decode cX3_weaker 40 = .ok (.aload_n 0, 1) := by decide +kernel
theorem dX3_weaker_41 : decode cX3_weaker 41 = .ok (.getfield 23, 3) := by decide +kernel
theorem dX3_weaker_44 : decode cX3_weaker 44 = .ok (.aload_n 0, 1) := by decide +kernel
theorem dX3_weaker_45 : decode cX3_weaker 45 = .ok (.getfield 26, 3) := by decide +kernel
theorem dX3_weaker_48 : decode cX3_weaker 48 = .ok (.iload_n 3, 1) := by decide +kernel
theorem dX3_weaker_49 : decode cX3_weaker 49 = .ok (.iload_n 2, 1) := by decide +kernel
theorem dX3_weaker_50 : decode cX3_weaker 50 = .ok (.bipush 8, 2) := by decide +kernel
theorem dX3_weaker_52 : decode cX3_weaker 52 = .ok (.irem, 1) := by decide +kernel
theorem dX3_weaker_53 : decode cX3_weaker 53 = .ok (.aload_n 1, 1) := by decide +kernel
theorem dX3_weaker_54 : decode cX3_weaker 54 = .ok (.getfield 54, 3) := by decide +kernel
theorem dX3_weaker_57 : decode cX3_weaker 57 = .ok (.invokevirtual 85, 3) := by decide +kernel
theorem dX3_weaker_60 : decode cX3_weaker 60 = .ok (.aload_n 0, 1) := by decide +kernel
theorem dX3_weaker_61 : decode cX3_weaker 61 = .ok (.getfield 15, 3) := by decide +kernel
theorem dX3_weaker_64 : decode cX3_weaker 64 = .ok (.invokevirtual 89, 3) := by decide +kernel
theorem dX3_weaker_67 : decode cX3_weaker 67 = .ok (.istore 4, 2) := by decide +kernel
theorem dX3_weaker_69 : decode cX3_weaker 69 = .ok (.iconst 0, 1) := by decide +kernel
theorem dX3_weaker_70 : decode cX3_weaker 70 = .ok (.bipush 99, 2) := by decide +kernel
theorem dX3_weaker_72 : decode cX3_weaker 72 = .ok (.iload 4, 2) := by decide +kernel
theorem dX3_weaker_74 : decode cX3_weaker 74 = .ok (.invokestatic 93, 3) := by decide +kernel
theorem dX3_weaker_77 : decode cX3_weaker 77 = .ok (.invokestatic 74, 3) := by decide +kernel
theorem dX3_weaker_80 : decode cX3_weaker 80 = .ok (.ireturn, 1) := by decide +kernel
theorem dX3_steps_0 : decode cX3_steps 0 = .ok (.iload_n 2, 1) := by decide +kernel
theorem dX3_steps_1 : decode cX3_steps 1 = .ok (.invokestatic 61, 3) := by decide +kernel
theorem dX3_steps_4 : decode cX3_steps 4 = .ok (.ifCond .ne 5, 3) := by decide +kernel
theorem dX3_steps_7 : decode cX3_steps 7 = .ok (.iconst 0, 1) := by decide +kernel
theorem dX3_steps_8 : decode cX3_steps 8 = .ok (.ireturn, 1) := by decide +kernel
theorem dX3_steps_9 : decode cX3_steps 9 = .ok (.aload_n 0, 1) := by decide +kernel
theorem dX3_steps_10 : decode cX3_steps 10 = .ok (.aload_n 1, 1) := by decide +kernel
theorem dX3_steps_11 : decode cX3_steps 11 = .ok (.iload_n 2, 1) := by decide +kernel
theorem dX3_steps_12 : decode cX3_steps 12 = .ok (.iconst 0, 1) := by decide +kernel
theorem dX3_steps_13 : decode cX3_steps 13 = .ok (.invokevirtual 96, 3) := by decide +kernel
theorem dX3_steps_16 : decode cX3_steps 16 = .ok (.istore_n 3, 1) := by decide +kernel
theorem dX3_steps_17 : decode cX3_steps 17 = .ok (.iload_n 3, 1) := by decide +kernel
theorem dX3_steps_18 : decode cX3_steps 18 = .ok (.aload_n 0, 1) := by decide +kernel
theorem dX3_steps_19 : decode cX3_steps 19 = .ok (.getfield 19, 3) := by decide +kernel
theorem dX3_steps_22 : decode cX3_steps 22 = .ok (.if_icmp .lt 7, 3) := by decide +kernel
theorem dX3_steps_25 : decode cX3_steps 25 = .ok (.iconst 1, 1) := by decide +kernel
theorem dX3_steps_26 : decode cX3_steps 26 = .ok (.goto 4, 3) := by decide +kernel
theorem dX3_steps_29 : decode cX3_steps 29 = .ok (.iconst 0, 1) := by decide +kernel
theorem dX3_steps_30 : decode cX3_steps 30 = .ok (.istore 4, 2) := by decide +kernel
theorem dX3_steps_32 : decode cX3_steps 32 = .ok (.iload 4, 2) := by decide +kernel
theorem dX3_steps_34 : decode cX3_steps 34 = .ok (.ifCond .eq 13, 3) := by decide +kernel
theorem dX3_steps_37 : decode cX3_steps 37 = .ok (.aload_n 0, 1) := by decide +kernel
theorem dX3_steps_38 : decode cX3_steps 38 = .ok (.aload_n 1, 1) := by decide +kernel
theorem dX3_steps_39 : decode cX3_steps 39 = .ok (.iload_n 2, 1) := by decide +kernel
theorem dX3_steps_40 : decode cX3_steps 40 = .ok (.iload_n 3, 1) := by decide +kernel
theorem dX3_steps_41 : decode cX3_steps 41 = .ok (.invokevirtual 100, 3) := by decide +kernel
theorem dX3_steps_44 : decode cX3_steps 44 = .ok (.goto 5, 3) := by decide +kernel
theorem dX3_steps_47 : decode cX3_steps 47 = .ok (.bipush 99, 2) := by decide +kernel
theorem dX3_steps_49 : decode cX3_steps 49 = .ok (.istore 5, 2) := by decide +kernel
theorem dX3_steps_51 : decode cX3_steps 51 = .ok (.aload_n 1, 1) := by decide +kernel
theorem dX3_steps_52 : decode cX3_steps 52 = .ok (.getfield 51, 3) := by decide +kernel
theorem dX3_steps_55 : decode cX3_steps 55 = .ok (.iload_n 2, 1) := by decide +kernel
theorem dX3_steps_56 : decode cX3_steps 56 = .ok (.bipush 99, 2) := by decide +kernel
theorem dX3_steps_58 : decode cX3_steps 58 = .ok (.aload_n 1, 1) := by decide +kernel
theorem dX3_steps_59 : decode cX3_steps 59 = .ok (.getfield 51, 3) := by decide +kernel
theorem dX3_steps_62 : decode cX3_steps 62 = .ok (.iload_n 2, 1) := by decide +kernel
theorem dX3_steps_63 : decode cX3_steps 63 = .ok (.iaload, 1) := by decide +kernel
theorem dX3_steps_64 : decode cX3_steps 64 = .ok (.iload 5, 2) := by decide +kernel
theorem dX3_steps_66 : decode cX3_steps 66 = .ok (.iadd, 1) := by decide +kernel
theorem dX3_steps_67 : decode cX3_steps 67 = .ok (.invokestatic 93, 3) := by decide +kernel
theorem dX3_steps_70 : decode cX3_steps 70 = .ok (.iastore, 1) := by decide +kernel
theorem dX3_steps_71 : decode cX3_steps 71 = .ok (.iload 4, 2) := by decide +kernel
theorem dX3_steps_73 : decode cX3_steps 73 = .ok (.ireturn, 1) := by decide +kernel
theorem dX3_passBehind_0 : decode cX3_passBehind 0 = .ok (.aload_n 0, 1) := by decide +kernel
theorem dX3_passBehind_1 : decode cX3_passBehind 1 = .ok (.aload_n 1, 1) := by decide +kernel
theorem dX3_passBehind_2 : decode cX3_passBehind 2 = .ok (.aload_n 0, 1) := by decide +kernel
theorem dX3_passBehind_3 : decode cX3_passBehind 3 = .ok (.getfield 29, 3) := by decide +kernel
theorem dX3_passBehind_6 : decode cX3_passBehind 6 = .ok (.ifCond .eq 12, 3) := by decide +kernel
theorem dX3_passBehind_9 : decode cX3_passBehind 9 = .ok (.aload_n 0, 1) := by decide +kernel
theorem dX3_passBehind_10 : decode cX3_passBehind 10 = .ok (.getfield 26, 3) := by decide +kernel
theorem dX3_passBehind_13 : decode cX3_passBehind 13 = .ok (.iconst 2, 1) := by decide +kernel
theorem dX3_passBehind_14 : decode cX3_passBehind 14 = .ok (.imul, 1) := by decide +kernel
theorem dX3_passBehind_15 : decode cX3_passBehind 15 = .ok (.goto 7, 3) := by decide +kernel
theorem dX3_passBehind_18 : decode cX3_passBehind 18 = .ok (.aload_n 0, 1) := by decide +kernel
theorem dX3_passBehind_19 : decode cX3_passBehind 19 = .ok (.getfield 26, 3) := by decide +kernel
theorem dX3_passBehind_22 : decode cX3_passBehind 22 = .ok (.invokevirtual 103, 3) := by decide +kernel
theorem dX3_passBehind_25 : decode cX3_passBehind 25 = .ok (.return_, 1) := by decide +kernel
theorem dX3_pass_0 : decode cX3_pass 0 = .ok (.iconst 0, 1) := by decide +kernel
theorem dX3_pass_1 : decode cX3_pass 1 = .ok (.istore_n 3, 1) := by decide +kernel
theorem dX3_pass_2 : decode cX3_pass 2 = .ok (.iload_n 3, 1) := by decide +kernel
theorem dX3_pass_3 : decode cX3_pass 3 = .ok (.bipush 24, 2) := by decide +kernel
theorem dX3_pass_5 : decode cX3_pass 5 = .ok (.if_icmp .ge 41, 3) := by decide +kernel
theorem dX3_pass_8 : decode cX3_pass 8 = .ok (.iload_n 2, 1) := by decide +kernel
theorem dX3_pass_9 : decode cX3_pass 9 = .ok (.aload_n 0, 1) := by decide +kernel
theorem dX3_pass_10 : decode cX3_pass 10 = .ok (.getfield 9, 3) := by decide +kernel
theorem dX3_pass_13 : decode cX3_pass 13 = .ok (.iload_n 3, 1) := by decide +kernel
theorem dX3_pass_14 : decode cX3_pass 14 = .ok (.iconst 1, 1) := by decide +kernel
theorem dX3_pass_15 : decode cX3_pass 15 = .ok (.invokevirtual 65, 3) := by decide +kernel
theorem dX3_pass_18 : decode cX3_pass 18 = .ok (.imul, 1) := by decide +kernel
theorem dX3_pass_19 : decode cX3_pass 19 = .ok (.istore 4, 2) := by decide +kernel
theorem dX3_pass_21 : decode cX3_pass 21 = .ok (.aload_n 1, 1) := by decide +kernel
theorem dX3_pass_22 : decode cX3_pass 22 = .ok (.getfield 51, 3) := by decide +kernel
theorem dX3_pass_25 : decode cX3_pass 25 = .ok (.iload_n 3, 1) := by decide +kernel
theorem dX3_pass_26 : decode cX3_pass 26 = .ok (.iconst 0, 1) := by decide +kernel
theorem dX3_pass_27 : decode cX3_pass 27 = .ok (.aload_n 1, 1) := by decide +kernel
theorem dX3_pass_28 : decode cX3_pass 28 = .ok (.getfield 51, 3) := by decide +kernel
theorem dX3_pass_31 : decode cX3_pass 31 = .ok (.iload_n 3, 1) := by decide +kernel
theorem dX3_pass_32 : decode cX3_pass 32 = .ok (.iaload, 1) := by decide +kernel
theorem dX3_pass_33 : decode cX3_pass 33 = .ok (.iload 4, 2) := by decide +kernel
theorem dX3_pass_35 : decode cX3_pass 35 = .ok (.isub, 1) := by decide +kernel
theorem dX3_pass_36 : decode cX3_pass 36 = .ok (.invokestatic 74, 3) := by decide +kernel
theorem dX3_pass_39 : decode cX3_pass 39 = .ok (.iastore, 1) := by decide +kernel
theorem dX3_pass_40 : decode cX3_pass 40 = .ok (.iinc 3 1, 3) := by decide +kernel
theorem dX3_pass_43 : decode cX3_pass 43 = .ok (.goto (-41), 3) := by decide +kernel
theorem dX3_pass_46 : decode cX3_pass 46 = .ok (.aload_n 1, 1) := by decide +kernel
theorem dX3_pass_47 : decode cX3_pass 47 = .ok (.dup, 1) := by decide +kernel
theorem dX3_pass_48 : decode cX3_pass 48 = .ok (.getfield 54, 3) := by decide +kernel
theorem dX3_pass_51 : decode cX3_pass 51 = .ok (.iload_n 2, 1) := by decide +kernel
theorem dX3_pass_52 : decode cX3_pass 52 = .ok (.iadd, 1) := by decide +kernel
theorem dX3_pass_53 : decode cX3_pass 53 = .ok (.putfield 54, 3) := by decide +kernel
theorem dX3_pass_56 : decode cX3_pass 56 = .ok (.return_, 1) := by decide +kernel
theorem dX3_cross_0 : decode cX3_cross 0 = .ok (.iconst (-1), 1) := by decide +kernel
theorem dX3_cross_1 : decode cX3_cross 1 = .ok (.istore 6, 2) := by decide +kernel
theorem dX3_cross_3 : decode cX3_cross 3 = .ok (.aload_n 0, 1) := by decide +kernel
theorem dX3_cross_4 : decode cX3_cross 4 = .ok (.iload_n 3, 1) := by decide +kernel
theorem dX3_cross_5 : decode cX3_cross 5 = .ok (.iload 4, 2) := by decide +kernel
theorem dX3_cross_7 : decode cX3_cross 7 = .ok (.invokevirtual 106, 3) := by decide +kernel
theorem dX3_cross_10 : decode cX3_cross 10 = .ok (.iconst 0, 1) := by decide +kernel
theorem dX3_cross_11 : decode cX3_cross 11 = .ok (.istore 7, 2) := by decide +kernel
theorem dX3_cross_13 : decode cX3_cross 13 = .ok (.iload 7, 2) := by decide +kernel
theorem dX3_cross_15 : decode cX3_cross 15 = .ok (.bipush 8, 2) := by decide +kernel
theorem dX3_cross_17 : decode cX3_cross 17 = .ok (.if_icmp .ge 51, 3) := by decide +kernel
theorem dX3_cross_20 : decode cX3_cross 20 = .ok (.iload 6, 2) := by decide +kernel
theorem dX3_cross_22 : decode cX3_cross 22 = .ok (.iconst (-1), 1) := by decide +kernel
theorem dX3_cross_23 : decode cX3_cross 23 = .ok (.if_icmp .ne 45, 3) := by decide +kernel
theorem dX3_cross_26 : decode cX3_cross 26 = .ok (.iload_n 2, 1) := by decide +kernel
theorem dX3_cross_27 : decode cX3_cross 27 = .ok (.bipush 8, 2) := by decide +kernel
theorem dX3_cross_29 : decode cX3_cross 29 = .ok (.imul, 1) := by decide +kernel
theorem dX3_cross_30 : decode cX3_cross 30 = .ok (.iload 5, 2) := by decide +kernel
theorem dX3_cross_32 : decode cX3_cross 32 = .ok (.ifCond .eq 11, 3) := by decide +kernel
theorem dX3_cross_35 : decode cX3_cross 35 = .ok (.bipush 7, 2) := by decide +kernel
theorem dX3_cross_37 : decode cX3_cross 37 = .ok (.iload 7, 2) := by decide +kernel
theorem dX3_cross_39 : decode cX3_cross 39 = .ok (.isub, 1) := by decide +kernel
theorem dX3_cross_40 : decode cX3_cross 40 = .ok (.goto 5, 3) := by decide +kernel
theorem dX3_cross_43 : decode cX3_cross 43 = .ok (.iload 7, 2) := by decide +kernel
theorem dX3_cross_45 : decode cX3_cross 45 = .ok (.iadd, 1) := by decide +kernel
theorem dX3_cross_46 : decode cX3_cross 46 = .ok (.istore 8, 2) := by decide +kernel
theorem dX3_cross_48 : decode cX3_cross 48 = .ok (.aload_n 0, 1) := by decide +kernel
theorem dX3_cross_49 : decode cX3_cross 49 = .ok (.aload_n 1, 1) := by decide +kernel
theorem dX3_cross_50 : decode cX3_cross 50 = .ok (.iload 8, 2) := by decide +kernel
theorem dX3_cross_52 : decode cX3_cross 52 = .ok (.invokevirtual 110, 3) := by decide +kernel
theorem dX3_cross_55 : decode cX3_cross 55 = .ok (.ifCond .ne 7, 3) := by decide +kernel
theorem dX3_cross_58 : decode cX3_cross 58 = .ok (.iload 8, 2) := by decide +kernel
theorem dX3_cross_60 : decode cX3_cross 60 = .ok (.istore 6, 2) := by decide +kernel
theorem dX3_cross_62 : decode cX3_cross 62 = .ok (.iinc 7 1, 3) := by decide +kernel
theorem dX3_cross_65 : decode cX3_cross 65 = .ok (.goto (-52), 3) := by decide +kernel
theorem dX3_cross_68 : decode cX3_cross 68 = .ok (.aload_n 0, 1) := by decide +kernel
theorem dX3_cross_69 : decode cX3_cross 69 = .ok (.aload_n 1, 1) := by decide +kernel
theorem dX3_cross_70 : decode cX3_cross 70 = .ok (.invokevirtual 114, 3) := by decide +kernel
theorem dX3_cross_73 : decode cX3_cross 73 = .ok (.iload 6, 2) := by decide +kernel
theorem dX3_cross_75 : decode cX3_cross 75 = .ok (.ireturn, 1) := by decide +kernel
theorem dX3_firstWait_0 : decode cX3_firstWait 0 = .ok (.aload_n 0, 1) := by decide +kernel
theorem dX3_firstWait_1 : decode cX3_firstWait 1 = .ok (.iload_n 3, 1) := by decide +kernel
theorem dX3_firstWait_2 : decode cX3_firstWait 2 = .ok (.iconst 0, 1) := by decide +kernel
theorem dX3_firstWait_3 : decode cX3_firstWait 3 = .ok (.invokevirtual 106, 3) := by decide +kernel
theorem dX3_firstWait_6 : decode cX3_firstWait 6 = .ok (.iconst 0, 1) := by decide +kernel
theorem dX3_firstWait_7 : decode cX3_firstWait 7 = .ok (.istore 4, 2) := by decide +kernel
theorem dX3_firstWait_9 : decode cX3_firstWait 9 = .ok (.iload 4, 2) := by decide +kernel
theorem dX3_firstWait_11 : decode cX3_firstWait 11 = .ok (.bipush 60, 2) := by decide +kernel
theorem dX3_firstWait_13 : decode cX3_firstWait 13 = .ok (.if_icmp .gt 23, 3) := by decide +kernel
theorem dX3_firstWait_16 : decode cX3_firstWait 16 = .ok (.aload_n 0, 1) := by decide +kernel
theorem dX3_firstWait_17 : decode cX3_firstWait 17 = .ok (.aload_n 1, 1) := by decide +kernel
theorem dX3_firstWait_18 : decode cX3_firstWait 18 = .ok (.iload_n 2, 1) := by decide +kernel
theorem dX3_firstWait_19 : decode cX3_firstWait 19 = .ok (.iload 4, 2) := by decide +kernel
theorem dX3_firstWait_21 : decode cX3_firstWait 21 = .ok (.invokevirtual 117, 3) := by decide +kernel
theorem dX3_firstWait_24 : decode cX3_firstWait 24 = .ok (.ifCond .eq 6, 3) := by decide +kernel
theorem dX3_firstWait_27 : decode cX3_firstWait 27 = .ok (.iload 4, 2) := by decide +kernel
theorem dX3_firstWait_29 : decode cX3_firstWait 29 = .ok (.ireturn, 1) := by decide +kernel
theorem dX3_firstWait_30 : decode cX3_firstWait 30 = .ok (.iinc 4 1, 3) := by decide +kernel
theorem dX3_firstWait_33 : decode cX3_firstWait 33 = .ok (.goto (-24), 3) := by decide +kernel
theorem dX3_firstWait_36 : decode cX3_firstWait 36 = .ok (.iconst (-1), 1) := by decide +kernel
theorem dX3_firstWait_37 : decode cX3_firstWait 37 = .ok (.ireturn, 1) := by decide +kernel
theorem dX3_holdsBehind_0 : decode cX3_holdsBehind 0 = .ok (.iconst 0, 1) := by decide +kernel
theorem dX3_holdsBehind_1 : decode cX3_holdsBehind 1 = .ok (.istore 4, 2) := by decide +kernel
theorem dX3_holdsBehind_3 : decode cX3_holdsBehind 3 = .ok (.iload 4, 2) := by decide +kernel
theorem dX3_holdsBehind_5 : decode cX3_holdsBehind 5 = .ok (.bipush 8, 2) := by decide +kernel
theorem dX3_holdsBehind_7 : decode cX3_holdsBehind 7 = .ok (.if_icmp .ge 31, 3) := by decide +kernel
theorem dX3_holdsBehind_10 : decode cX3_holdsBehind 10 = .ok (.aload_n 0, 1) := by decide +kernel
theorem dX3_holdsBehind_11 : decode cX3_holdsBehind 11 = .ok (.aload_n 1, 1) := by decide +kernel
theorem dX3_holdsBehind_12 : decode cX3_holdsBehind 12 = .ok (.iload_n 2, 1) := by decide +kernel
theorem dX3_holdsBehind_13 : decode cX3_holdsBehind 13 = .ok (.bipush 8, 2) := by decide +kernel
theorem dX3_holdsBehind_15 : decode cX3_holdsBehind 15 = .ok (.imul, 1) := by decide +kernel
theorem dX3_holdsBehind_16 : decode cX3_holdsBehind 16 = .ok (.iload 4, 2) := by decide +kernel
theorem dX3_holdsBehind_18 : decode cX3_holdsBehind 18 = .ok (.iadd, 1) := by decide +kernel
theorem dX3_holdsBehind_19 : decode cX3_holdsBehind 19 = .ok (.iload_n 3, 1) := by decide +kernel
theorem dX3_holdsBehind_20 : decode cX3_holdsBehind 20 = .ok (.invokevirtual 96, 3) := by decide +kernel
theorem dX3_holdsBehind_23 : decode cX3_holdsBehind 23 = .ok (.aload_n 0, 1) := by decide +kernel
theorem dX3_holdsBehind_24 : decode cX3_holdsBehind 24 = .ok (.getfield 19, 3) := by decide +kernel
theorem dX3_holdsBehind_27 : decode cX3_holdsBehind 27 = .ok (.if_icmp .ge 5, 3) := by decide +kernel
theorem dX3_holdsBehind_30 : decode cX3_holdsBehind 30 = .ok (.iconst 0, 1) := by decide +kernel
theorem dX3_holdsBehind_31 : decode cX3_holdsBehind 31 = .ok (.ireturn, 1) := by decide +kernel
theorem dX3_holdsBehind_32 : decode cX3_holdsBehind 32 = .ok (.iinc 4 1, 3) := by decide +kernel
theorem dX3_holdsBehind_35 : decode cX3_holdsBehind 35 = .ok (.goto (-32), 3) := by decide +kernel
theorem dX3_holdsBehind_38 : decode cX3_holdsBehind 38 = .ok (.iconst 1, 1) := by decide +kernel
theorem dX3_holdsBehind_39 : decode cX3_holdsBehind 39 = .ok (.ireturn, 1) := by decide +kernel
theorem dX4_init_0 : decode cX4_init 0 = .ok (.aload_n 0, 1) := by decide +kernel
theorem dX4_init_1 : decode cX4_init 1 = .ok (.invokespecial 3, 3) := by decide +kernel
theorem dX4_init_4 : decode cX4_init 4 = .ok (.aload_n 0, 1) := by decide +kernel
theorem dX4_init_5 : decode cX4_init 5 = .ok (.new 9, 3) := by decide +kernel
theorem dX4_init_8 : decode cX4_init 8 = .ok (.dup, 1) := by decide +kernel
theorem dX4_init_9 : decode cX4_init 9 = .ok (.invokespecial 11, 3) := by decide +kernel
theorem dX4_init_12 : decode cX4_init 12 = .ok (.putfield 12, 3) := by decide +kernel
theorem dX4_init_15 : decode cX4_init 15 = .ok (.aload_n 0, 1) := by decide +kernel
theorem dX4_init_16 : decode cX4_init 16 = .ok (.iconst 5, 1) := by decide +kernel
theorem dX4_init_17 : decode cX4_init 17 = .ok (.newarray .int, 2) := by decide +kernel
theorem dX4_init_19 : decode cX4_init 19 = .ok (.putfield 18, 3) := by decide +kernel
theorem dX4_init_22 : decode cX4_init 22 = .ok (.aload_n 0, 1) := by decide +kernel
theorem dX4_init_23 : decode cX4_init 23 = .ok (.getfield 18, 3) := by decide +kernel
theorem dX4_init_26 : decode cX4_init 26 = .ok (.iconst 4, 1) := by decide +kernel
theorem dX4_init_27 : decode cX4_init 27 = .ok (.bipush (-2), 2) := by decide +kernel
theorem dX4_init_29 : decode cX4_init 29 = .ok (.iastore, 1) := by decide +kernel
theorem dX4_init_30 : decode cX4_init 30 = .ok (.aload_n 0, 1) := by decide +kernel
theorem dX4_init_31 : decode cX4_init 31 = .ok (.bipush 24, 2) := by decide +kernel
theorem dX4_init_33 : decode cX4_init 33 = .ok (.newarray .int, 2) := by decide +kernel
theorem dX4_init_35 : decode cX4_init 35 = .ok (.putfield 22, 3) := by decide +kernel
theorem dX4_init_38 : decode cX4_init 38 = .ok (.aload_n 0, 1) := by decide +kernel
theorem dX4_init_39 : decode cX4_init 39 = .ok (.iconst 5, 1) := by decide +kernel
theorem dX4_init_40 : decode cX4_init 40 = .ok (.newarray .int, 2) := by decide +kernel
theorem dX4_init_42 : decode cX4_init 42 = .ok (.putfield 25, 3) := by decide +kernel
theorem dX4_init_45 : decode cX4_init 45 = .ok (.aload_n 0, 1) := by decide +kernel
theorem dX4_init_46 : decode cX4_init 46 = .ok (.iconst 0, 1) := by decide +kernel
theorem dX4_init_47 : decode cX4_init 47 = .ok (.putfield 28, 3) := by decide +kernel
theorem dX4_init_50 : decode cX4_init 50 = .ok (.aload_n 0, 1) := by decide +kernel
theorem dX4_init_51 : decode cX4_init 51 = .ok (.iconst 0, 1) := by decide +kernel
theorem dX4_init_52 : decode cX4_init 52 = .ok (.putfield 32, 3) := by decide +kernel
theorem dX4_init_55 : decode cX4_init 55 = .ok (.return_, 1) := by decide +kernel
theorem dX4_lead_0 : decode cX4_lead 0 = .ok (.aload_n 0, 1) := by decide +kernel
theorem dX4_lead_1 : decode cX4_lead 1 = .ok (.getfield 18, 3) := by decide +kernel
theorem dX4_lead_4 : decode cX4_lead 4 = .ok (.iconst 0, 1) := by decide +kernel
theorem dX4_lead_5 : decode cX4_lead 5 = .ok (.dup2, 1) := by decide +kernel
theorem dX4_lead_6 : decode cX4_lead 6 = .ok (.iaload, 1) := by decide +kernel
theorem dX4_lead_7 : decode cX4_lead 7 = .ok (.iconst 1, 1) := by decide +kernel
theorem dX4_lead_8 : decode cX4_lead 8 = .ok (.iadd, 1) := by decide +kernel
theorem dX4_lead_9 : decode cX4_lead 9 = .ok (.iastore, 1) := by decide +kernel
theorem dX4_lead_10 : decode cX4_lead 10 = .ok (.iload_n 1, 1) := by decide +kernel
theorem dX4_lead_11 : decode cX4_lead 11 = .ok (.iconst (-1), 1) := by decide +kernel
theorem dX4_lead_12 : decode cX4_lead 12 = .ok (.if_icmp .ne 32, 3) := by decide +kernel
theorem dX4_lead_15 : decode cX4_lead 15 = .ok (.aload_n 0, 1) := by decide +kernel
theorem dX4_lead_16 : decode cX4_lead 16 = .ok (.getfield 18, 3) := by decide +kernel
theorem dX4_lead_19 : decode cX4_lead 19 = .ok (.iconst 1, 1) := by decide +kernel
theorem dX4_lead_20 : decode cX4_lead 20 = .ok (.dup2, 1) := by decide +kernel
theorem dX4_lead_21 : decode cX4_lead 21 = .ok (.iaload, 1) := by decide +kernel
theorem dX4_lead_22 : decode cX4_lead 22 = .ok (.iconst 1, 1) := by decide +kernel
theorem dX4_lead_23 : decode cX4_lead 23 = .ok (.iadd, 1) := by decide +kernel
theorem dX4_lead_24 : decode cX4_lead 24 = .ok (.iastore, 1) := by decide +kernel
theorem dX4_lead_25 : decode cX4_lead 25 = .ok (.aload_n 0, 1) := by decide +kernel
theorem dX4_lead_26 : decode cX4_lead 26 = .ok (.getfield 18, 3) := by decide +kernel
theorem dX4_lead_29 : decode cX4_lead 29 = .ok (.iconst 3, 1) := by decide +kernel
theorem dX4_lead_30 : decode cX4_lead 30 = .ok (.aload_n 0, 1) := by decide +kernel
theorem dX4_lead_31 : decode cX4_lead 31 = .ok (.getfield 18, 3) := by decide +kernel
theorem dX4_lead_34 : decode cX4_lead 34 = .ok (.iconst 3, 1) := by decide +kernel
theorem dX4_lead_35 : decode cX4_lead 35 = .ok (.iaload, 1) := by decide +kernel
theorem dX4_lead_36 : decode cX4_lead 36 = .ok (.iload_n 2, 1) := by decide +kernel
theorem dX4_lead_37 : decode cX4_lead 37 = .ok (.invokestatic 36, 3) := by decide +kernel
theorem dX4_lead_40 : decode cX4_lead 40 = .ok (.iastore, 1) := by decide +kernel
theorem dX4_lead_41 : decode cX4_lead 41 = .ok (.goto 20, 3) := by decide +kernel
theorem dX4_lead_44 : decode cX4_lead 44 = .ok (.aload_n 0, 1) := by decide +kernel
theorem dX4_lead_45 : decode cX4_lead 45 = .ok (.getfield 18, 3) := by decide +kernel
theorem dX4_lead_48 : decode cX4_lead 48 = .ok (.iconst 2, 1) := by decide +kernel
theorem dX4_lead_49 : decode cX4_lead 49 = .ok (.dup2, 1) := by decide +kernel
theorem dX4_lead_50 : decode cX4_lead 50 = .ok (.iaload, 1) := by decide +kernel
theorem dX4_lead_51 : decode cX4_lead 51 = .ok (.iconst 1, 1) := by decide +kernel
theorem dX4_lead_52 : decode cX4_lead 52 = .ok (.iadd, 1) := by decide +kernel
theorem dX4_lead_53 : decode cX4_lead 53 = .ok (.iastore, 1) := by decide +kernel
theorem dX4_lead_54 : decode cX4_lead 54 = .ok (.aload_n 0, 1) := by decide +kernel
theorem dX4_lead_55 : decode cX4_lead 55 = .ok (.getfield 18, 3) := by decide +kernel
theorem dX4_lead_58 : decode cX4_lead 58 = .ok (.iconst 4, 1) := by decide +kernel
theorem dX4_lead_59 : decode cX4_lead 59 = .ok (.iload_n 1, 1) := by decide +kernel
theorem dX4_lead_60 : decode cX4_lead 60 = .ok (.iastore, 1) := by decide +kernel
theorem dX4_lead_61 : decode cX4_lead 61 = .ok (.return_, 1) := by decide +kernel
theorem dX4_told_0 : decode cX4_told 0 = .ok (.iload_n 1, 1) := by decide +kernel
theorem dX4_told_1 : decode cX4_told 1 = .ok (.ifCond .lt 17, 3) := by decide +kernel
theorem dX4_told_4 : decode cX4_told 4 = .ok (.iload_n 1, 1) := by decide +kernel
theorem dX4_told_5 : decode cX4_told 5 = .ok (.iconst 5, 1) := by decide +kernel
theorem dX4_told_6 : decode cX4_told 6 = .ok (.if_icmp .ge 12, 3) := by decide +kernel
theorem dX4_told_9 : decode cX4_told 9 = .ok (.aload_n 0, 1) := by decide +kernel
theorem dX4_told_10 : decode cX4_told 10 = .ok (.getfield 18, 3) := by decide +kernel
theorem dX4_told_13 : decode cX4_told 13 = .ok (.iload_n 1, 1) := by decide +kernel
theorem dX4_told_14 : decode cX4_told 14 = .ok (.iaload, 1) := by decide +kernel
theorem dX4_told_15 : decode cX4_told 15 = .ok (.goto 4, 3) := by decide +kernel
theorem dX4_told_18 : decode cX4_told 18 = .ok (.iconst (-1), 1) := by decide +kernel
theorem dX4_told_19 : decode cX4_told 19 = .ok (.ireturn, 1) := by decide +kernel
theorem dX4_keepImage_0 : decode cX4_keepImage 0 = .ok (.aload_n 0, 1) := by decide +kernel
theorem dX4_keepImage_1 : decode cX4_keepImage 1 = .ok (.getfield 12, 3) := by decide +kernel
theorem dX4_keepImage_4 : decode cX4_keepImage 4 = .ok (.getfield 42, 3) := by decide +kernel
theorem dX4_keepImage_7 : decode cX4_keepImage 7 = .ok (.iconst 0, 1) := by decide +kernel
theorem dX4_keepImage_8 : decode cX4_keepImage 8 = .ok (.aload_n 0, 1) := by decide +kernel
theorem dX4_keepImage_9 : decode cX4_keepImage 9 = .ok (.getfield 22, 3) := by decide +kernel
theorem dX4_keepImage_12 : decode cX4_keepImage 12 = .ok (.iconst 0, 1) := by decide +kernel
theorem dX4_keepImage_13 : decode cX4_keepImage 13 = .ok (.bipush 24, 2) := by decide +kernel
theorem dX4_keepImage_15 : decode cX4_keepImage 15 = .ok (.invokestatic 45, 3) := by decide +kernel
theorem dX4_keepImage_18 : decode cX4_keepImage 18 = .ok (.aload_n 0, 1) := by decide +kernel
theorem dX4_keepImage_19 : decode cX4_keepImage 19 = .ok (.getfield 18, 3) := by decide +kernel
theorem dX4_keepImage_22 : decode cX4_keepImage 22 = .ok (.iconst 0, 1) := by decide +kernel
theorem dX4_keepImage_23 : decode cX4_keepImage 23 = .ok (.aload_n 0, 1) := by decide +kernel
theorem dX4_keepImage_24 : decode cX4_keepImage 24 = .ok (.getfield 25, 3) := by decide +kernel
theorem dX4_keepImage_27 : decode cX4_keepImage 27 = .ok (.iconst 0, 1) := by decide +kernel
theorem dX4_keepImage_28 : decode cX4_keepImage 28 = .ok (.iconst 5, 1) := by decide +kernel
theorem dX4_keepImage_29 : decode cX4_keepImage 29 = .ok (.invokestatic 45, 3) := by decide +kernel
theorem dX4_keepImage_32 : decode cX4_keepImage 32 = .ok (.aload_n 0, 1) := by decide +kernel
theorem dX4_keepImage_33 : decode cX4_keepImage 33 = .ok (.aload_n 0, 1) := by decide +kernel
theorem dX4_keepImage_34 : decode cX4_keepImage 34 = .ok (.getfield 12, 3) := by decide +kernel
theorem dX4_keepImage_37 : decode cX4_keepImage 37 = .ok (.getfield 51, 3) := by decide +kernel
theorem dX4_keepImage_40 : decode cX4_keepImage 40 = .ok (.putfield 28, 3) := by decide +kernel
theorem dX4_keepImage_43 : decode cX4_keepImage 43 = .ok (.aload_n 0, 1) := by decide +kernel
theorem dX4_keepImage_44 : decode cX4_keepImage 44 = .ok (.iconst 1, 1) := by decide +kernel
theorem dX4_keepImage_45 : decode cX4_keepImage 45 = .ok (.putfield 32, 3) := by decide +kernel
theorem dX4_keepImage_48 : decode cX4_keepImage 48 = .ok (.return_, 1) := by decide +kernel

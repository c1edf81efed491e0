theorem dX4_layImage_0 : decode cX4_layImage 0 = .ok (.aload_n 0, 1) := by decide +kernel
theorem dX4_layImage_1 : decode cX4_layImage 1 = .ok (.getfield 32, 3) := by decide +kernel
theorem dX4_layImage_4 : decode cX4_layImage 4 = .ok (.ifCond .ne 5, 3) := by decide +kernel
theorem dX4_layImage_7 : decode cX4_layImage 7 = .ok (.iconst 0, 1) := by decide +kernel
theorem dX4_layImage_8 : decode cX4_layImage 8 = .ok (.ireturn, 1) := by decide +kernel
theorem dX4_layImage_9 : decode cX4_layImage 9 = .ok (.aload_n 0, 1) := by decide +kernel
theorem dX4_layImage_10 : decode cX4_layImage 10 = .ok (.getfield 22, 3) := by decide +kernel
theorem dX4_layImage_13 : decode cX4_layImage 13 = .ok (.iconst 0, 1) := by decide +kernel
theorem dX4_layImage_14 : decode cX4_layImage 14 = .ok (.aload_n 0, 1) := by decide +kernel
theorem dX4_layImage_15 : decode cX4_layImage 15 = .ok (.getfield 12, 3) := by decide +kernel
theorem dX4_layImage_18 : decode cX4_layImage 18 = .ok (.getfield 42, 3) := by decide +kernel
theorem dX4_layImage_21 : decode cX4_layImage 21 = .ok (.iconst 0, 1) := by decide +kernel
theorem dX4_layImage_22 : decode cX4_layImage 22 = .ok (.bipush 24, 2) := by decide +kernel
theorem dX4_layImage_24 : decode cX4_layImage 24 = .ok (.invokestatic 45, 3) := by decide +kernel
theorem dX4_layImage_27 : decode cX4_layImage 27 = .ok (.aload_n 0, 1) := by decide +kernel
theorem dX4_layImage_28 : decode cX4_layImage 28 = .ok (.getfield 25, 3) := by decide +kernel
theorem dX4_layImage_31 : decode cX4_layImage 31 = .ok (.iconst 0, 1) := by decide +kernel
theorem dX4_layImage_32 : decode cX4_layImage 32 = .ok (.aload_n 0, 1) := by decide +kernel
theorem dX4_layImage_33 : decode cX4_layImage 33 = .ok (.getfield 18, 3) := by decide +kernel
theorem dX4_layImage_36 : decode cX4_layImage 36 = .ok (.iconst 0, 1) := by decide +kernel
theorem dX4_layImage_37 : decode cX4_layImage 37 = .ok (.iconst 5, 1) := by decide +kernel
theorem dX4_layImage_38 : decode cX4_layImage 38 = .ok (.invokestatic 45, 3) := by decide +kernel
theorem dX4_layImage_41 : decode cX4_layImage 41 = .ok (.aload_n 0, 1) := by decide +kernel
theorem dX4_layImage_42 : decode cX4_layImage 42 = .ok (.getfield 12, 3) := by decide +kernel
theorem dX4_layImage_45 : decode cX4_layImage 45 = .ok (.aload_n 0, 1) := by decide +kernel
theorem dX4_layImage_46 : decode cX4_layImage 46 = .ok (.getfield 28, 3) := by decide +kernel
theorem dX4_layImage_49 : decode cX4_layImage 49 = .ok (.putfield 51, 3) := by decide +kernel
theorem dX4_layImage_52 : decode cX4_layImage 52 = .ok (.iconst 1, 1) := by decide +kernel
theorem dX4_layImage_53 : decode cX4_layImage 53 = .ok (.ireturn, 1) := by decide +kernel
theorem dX5_init_0 : decode cX5_init 0 = .ok (.aload_n 0, 1) := by decide +kernel
theorem dX5_init_1 : decode cX5_init 1 = .ok (.invokespecial 3, 3) := by decide +kernel
theorem dX5_init_4 : decode cX5_init 4 = .ok (.aload_n 0, 1) := by decide +kernel
theorem dX5_init_5 : decode cX5_init 5 = .ok (.bipush 24, 2) := by decide +kernel
theorem dX5_init_7 : decode cX5_init 7 = .ok (.newarray .int, 2) := by decide +kernel
theorem dX5_init_9 : decode cX5_init 9 = .ok (.putfield 9, 3) := by decide +kernel
theorem dX5_init_12 : decode cX5_init 12 = .ok (.aload_n 0, 1) := by decide +kernel
theorem dX5_init_13 : decode cX5_init 13 = .ok (.bipush 24, 2) := by decide +kernel
theorem dX5_init_15 : decode cX5_init 15 = .ok (.newarray .int, 2) := by decide +kernel
theorem dX5_init_17 : decode cX5_init 17 = .ok (.putfield 15, 3) := by decide +kernel
theorem dX5_init_20 : decode cX5_init 20 = .ok (.aload_n 0, 1) := by decide +kernel
theorem dX5_init_21 : decode cX5_init 21 = .ok (.iconst 0, 1) := by decide +kernel
theorem dX5_init_22 : decode cX5_init 22 = .ok (.putfield 18, 3) := by decide +kernel
theorem dX5_init_25 : decode cX5_init 25 = .ok (.return_, 1) := by decide +kernel
theorem dX5_clearWay_0 : decode cX5_clearWay 0 = .ok (.iload_n 1, 1) := by decide +kernel
theorem dX5_clearWay_1 : decode cX5_clearWay 1 = .ok (.invokestatic 22, 3) := by decide +kernel
theorem dX5_clearWay_4 : decode cX5_clearWay 4 = .ok (.ifCond .ne 4, 3) := by decide +kernel
theorem dX5_clearWay_7 : decode cX5_clearWay 7 = .ok (.return_, 1) := by decide +kernel
theorem dX5_clearWay_8 : decode cX5_clearWay 8 = .ok (.iconst 0, 1) := by decide +kernel
theorem dX5_clearWay_9 : decode cX5_clearWay 9 = .ok (.istore_n 2, 1) := by decide +kernel
theorem dX5_clearWay_10 : decode cX5_clearWay 10 = .ok (.iload_n 2, 1) := by decide +kernel
theorem dX5_clearWay_11 : decode cX5_clearWay 11 = .ok (.bipush 8, 2) := by decide +kernel
theorem dX5_clearWay_13 : decode cX5_clearWay 13 = .ok (.if_icmp .ge 21, 3) := by decide +kernel
theorem dX5_clearWay_16 : decode cX5_clearWay 16 = .ok (.aload_n 0, 1) := by decide +kernel
theorem dX5_clearWay_17 : decode cX5_clearWay 17 = .ok (.getfield 15, 3) := by decide +kernel
theorem dX5_clearWay_20 : decode cX5_clearWay 20 = .ok (.iload_n 1, 1) := by decide +kernel
theorem dX5_clearWay_21 : decode cX5_clearWay 21 = .ok (.bipush 8, 2) := by decide +kernel
theorem dX5_clearWay_23 : decode cX5_clearWay 23 = .ok (.imul, 1) := by decide +kernel
theorem dX5_clearWay_24 : decode cX5_clearWay 24 = .ok (.iload_n 2, 1) := by decide +kernel
theorem dX5_clearWay_25 : decode cX5_clearWay 25 = .ok (.iadd, 1) := by decide +kernel
theorem dX5_clearWay_26 : decode cX5_clearWay 26 = .ok (.iconst 0, 1) := by decide +kernel
theorem dX5_clearWay_27 : decode cX5_clearWay 27 = .ok (.iastore, 1) := by decide +kernel
theorem dX5_clearWay_28 : decode cX5_clearWay 28 = .ok (.iinc 2 1, 3) := by decide +kernel
theorem dX5_clearWay_31 : decode cX5_clearWay 31 = .ok (.goto (-21), 3) := by decide +kernel
theorem dX5_clearWay_34 : decode cX5_clearWay 34 = .ok (.return_, 1) := by decide +kernel
theorem dX5_levelWay_0 : decode cX5_levelWay 0 = .ok (.iload_n 1, 1) := by decide +kernel
theorem dX5_levelWay_1 : decode cX5_levelWay 1 = .ok (.invokestatic 22, 3) := by decide +kernel
theorem dX5_levelWay_4 : decode cX5_levelWay 4 = .ok (.ifCond .ne 4, 3) := by decide +kernel
theorem dX5_levelWay_7 : decode cX5_levelWay 7 = .ok (.return_, 1) := by decide +kernel
theorem dX5_levelWay_8 : decode cX5_levelWay 8 = .ok (.iconst 0, 1) := by decide +kernel
theorem dX5_levelWay_9 : decode cX5_levelWay 9 = .ok (.istore_n 3, 1) := by decide +kernel
theorem dX5_levelWay_10 : decode cX5_levelWay 10 = .ok (.iload_n 3, 1) := by decide +kernel
theorem dX5_levelWay_11 : decode cX5_levelWay 11 = .ok (.bipush 8, 2) := by decide +kernel
theorem dX5_levelWay_13 : decode cX5_levelWay 13 = .ok (.if_icmp .ge 21, 3) := by decide +kernel
theorem dX5_levelWay_16 : decode cX5_levelWay 16 = .ok (.aload_n 0, 1) := by decide +kernel
theorem dX5_levelWay_17 : decode cX5_levelWay 17 = .ok (.getfield 9, 3) := by decide +kernel
theorem dX5_levelWay_20 : decode cX5_levelWay 20 = .ok (.iload_n 1, 1) := by decide +kernel
theorem dX5_levelWay_21 : decode cX5_levelWay 21 = .ok (.bipush 8, 2) := by decide +kernel
theorem dX5_levelWay_23 : decode cX5_levelWay 23 = .ok (.imul, 1) := by decide +kernel
theorem dX5_levelWay_24 : decode cX5_levelWay 24 = .ok (.iload_n 3, 1) := by decide +kernel
theorem dX5_levelWay_25 : decode cX5_levelWay 25 = .ok (.iadd, 1) := by decide +kernel
theorem dX5_levelWay_26 : decode cX5_levelWay 26 = .ok (.iload_n 2, 1) := by decide +kernel
theorem dX5_levelWay_27 : decode cX5_levelWay 27 = .ok (.iastore, 1) := by decide +kernel
theorem dX5_levelWay_28 : decode cX5_levelWay 28 = .ok (.iinc 3 1, 3) := by decide +kernel
theorem dX5_levelWay_31 : decode cX5_levelWay 31 = .ok (.goto (-21), 3) := by decide +kernel
theorem dX5_levelWay_34 : decode cX5_levelWay 34 = .ok (.return_, 1) := by decide +kernel
theorem dX5_weakOn_0 : decode cX5_weakOn 0 = .ok (.iload_n 1, 1) := by decide +kernel
theorem dX5_weakOn_1 : decode cX5_weakOn 1 = .ok (.invokestatic 26, 3) := by decide +kernel
theorem dX5_weakOn_4 : decode cX5_weakOn 4 = .ok (.ifCond .eq 12, 3) := by decide +kernel
theorem dX5_weakOn_7 : decode cX5_weakOn 7 = .ok (.aload_n 0, 1) := by decide +kernel
theorem dX5_weakOn_8 : decode cX5_weakOn 8 = .ok (.getfield 15, 3) := by decide +kernel
theorem dX5_weakOn_11 : decode cX5_weakOn 11 = .ok (.iload_n 1, 1) := by decide +kernel
theorem dX5_weakOn_12 : decode cX5_weakOn 12 = .ok (.iaload, 1) := by decide +kernel
theorem dX5_weakOn_13 : decode cX5_weakOn 13 = .ok (.goto 4, 3) := by decide +kernel
theorem dX5_weakOn_16 : decode cX5_weakOn 16 = .ok (.iconst 0, 1) := by decide +kernel
theorem dX5_weakOn_17 : decode cX5_weakOn 17 = .ok (.ireturn, 1) := by decide +kernel
theorem dX5_weakSquares_0 : decode cX5_weakSquares 0 = .ok (.iconst 0, 1) := by decide +kernel
theorem dX5_weakSquares_1 : decode cX5_weakSquares 1 = .ok (.istore_n 1, 1) := by decide +kernel
theorem dX5_weakSquares_2 : decode cX5_weakSquares 2 = .ok (.iconst 0, 1) := by decide +kernel
theorem dX5_weakSquares_3 : decode cX5_weakSquares 3 = .ok (.istore_n 2, 1) := by decide +kernel
theorem dX5_weakSquares_4 : decode cX5_weakSquares 4 = .ok (.iload_n 2, 1) := by decide +kernel
theorem dX5_weakSquares_5 : decode cX5_weakSquares 5 = .ok (.bipush 24, 2) := by decide +kernel
theorem dX5_weakSquares_7 : decode cX5_weakSquares 7 = .ok (.if_icmp .ge 21, 3) := by decide +kernel
theorem dX5_weakSquares_10 : decode cX5_weakSquares 10 = .ok (.aload_n 0, 1) := by decide +kernel
theorem dX5_weakSquares_11 : decode cX5_weakSquares 11 = .ok (.getfield 15, 3) := by decide +kernel
theorem dX5_weakSquares_14 : decode cX5_weakSquares 14 = .ok (.iload_n 2, 1) := by decide +kernel
theorem dX5_weakSquares_15 : decode cX5_weakSquares 15 = .ok (.iaload, 1) := by decide +kernel
theorem dX5_weakSquares_16 : decode cX5_weakSquares 16 = .ok (.ifCond .le 6, 3) := by decide +kernel
theorem dX5_weakSquares_19 : decode cX5_weakSquares 19 = .ok (.iinc 1 1, 3) := by decide +kernel
theorem dX5_weakSquares_22 : decode cX5_weakSquares 22 = .ok (.iinc 2 1, 3) := by decide +kernel
theorem dX5_weakSquares_25 : decode cX5_weakSquares 25 = .ok (.goto (-21), 3) := by decide +kernel
theorem dX5_weakSquares_28 : decode cX5_weakSquares 28 = .ok (.iload_n 1, 1) := by decide +kernel
theorem dX5_weakSquares_29 : decode cX5_weakSquares 29 = .ok (.ireturn, 1) := by decide +kernel
theorem dX6_init_0 : decode cX6_init 0 = .ok (.aload_n 0, 1) := by decide +kernel
theorem dX6_init_1 : decode cX6_init 1 = .ok (.invokespecial 1, 3) := by decide +kernel
theorem dX6_init_4 : decode cX6_init 4 = .ok (.aload_n 0, 1) := by decide +kernel
theorem dX6_init_5 : decode cX6_init 5 = .ok (.bipush 120, 2) := by decide +kernel
theorem dX6_init_7 : decode cX6_init 7 = .ok (.newarray .int, 2) := by decide +kernel
theorem dX6_init_9 : decode cX6_init 9 = .ok (.putfield 9, 3) := by decide +kernel
theorem dX6_init_12 : decode cX6_init 12 = .ok (.aload_n 0, 1) := by decide +kernel
theorem dX6_init_13 : decode cX6_init 13 = .ok (.bipush 121, 2) := by decide +kernel
theorem dX6_init_15 : decode cX6_init 15 = .ok (.newarray .int, 2) := by decide +kernel
theorem dX6_init_17 : decode cX6_init 17 = .ok (.putfield 13, 3) := by decide +kernel
theorem dX6_init_20 : decode cX6_init 20 = .ok (.aload_n 0, 1) := by decide +kernel
theorem dX6_init_21 : decode cX6_init 21 = .ok (.bipush 121, 2) := by decide +kernel
theorem dX6_init_23 : decode cX6_init 23 = .ok (.newarray .int, 2) := by decide +kernel
theorem dX6_init_25 : decode cX6_init 25 = .ok (.putfield 16, 3) := by decide +kernel
theorem dX6_init_28 : decode cX6_init 28 = .ok (.aload_n 0, 1) := by decide +kernel
theorem dX6_init_29 : decode cX6_init 29 = .ok (.bipush 121, 2) := by decide +kernel
theorem dX6_init_31 : decode cX6_init 31 = .ok (.newarray .int, 2) := by decide +kernel
theorem dX6_init_33 : decode cX6_init 33 = .ok (.putfield 19, 3) := by decide +kernel
theorem dX6_init_36 : decode cX6_init 36 = .ok (.aload_n 0, 1) := by decide +kernel
theorem dX6_init_37 : decode cX6_init 37 = .ok (.bipush 6, 2) := by decide +kernel
theorem dX6_init_39 : decode cX6_init 39 = .ok (.newarray .int, 2) := by decide +kernel
theorem dX6_init_41 : decode cX6_init 41 = .ok (.putfield 22, 3) := by decide +kernel
theorem dX6_init_44 : decode cX6_init 44 = .ok (.aload_n 0, 1) := by decide +kernel
theorem dX6_init_45 : decode cX6_init 45 = .ok (.iconst 0, 1) := by decide +kernel
theorem dX6_init_46 : decode cX6_init 46 = .ok (.putfield 25, 3) := by decide +kernel
theorem dX6_init_49 : decode cX6_init 49 = .ok (.aload_n 0, 1) := by decide +kernel
theorem dX6_init_50 : decode cX6_init 50 = .ok (.iconst 0, 1) := by decide +kernel
theorem dX6_init_51 : decode cX6_init 51 = .ok (.putfield 29, 3) := by decide +kernel
theorem dX6_init_54 : decode cX6_init 54 = .ok (.aload_n 0, 1) := by decide +kernel
theorem dX6_init_55 : decode cX6_init 55 = .ok (.iconst (-1), 1) := by decide +kernel
theorem dX6_init_56 : decode cX6_init 56 = .ok (.putfield 32, 3) := by decide +kernel
theorem dX6_init_59 : decode cX6_init 59 = .ok (.aload_n 0, 1) := by decide +kernel
theorem dX6_init_60 : decode cX6_init 60 = .ok (.iconst 0, 1) := by decide +kernel
theorem dX6_init_61 : decode cX6_init 61 = .ok (.putfield 35, 3) := by decide +kernel
theorem dX6_init_64 : decode cX6_init 64 = .ok (.aload_n 0, 1) := by decide +kernel
theorem dX6_init_65 : decode cX6_init 65 = .ok (.iconst 0, 1) := by decide +kernel
theorem dX6_init_66 : decode cX6_init 66 = .ok (.putfield 38, 3) := by decide +kernel
theorem dX6_init_69 : decode cX6_init 69 = .ok (.return_, 1) := by decide +kernel
theorem dX6_take_0 : decode cX6_take 0 = .ok (.aload_n 0, 1) := by decide +kernel
theorem dX6_take_1 : decode cX6_take 1 = .ok (.getfield 25, 3) := by decide +kernel
theorem dX6_take_4 : decode cX6_take 4 = .ok (.ifCond .lt 12, 3) := by decide +kernel
theorem dX6_take_7 : decode cX6_take 7 = .ok (.aload_n 0, 1) := by decide +kernel
theorem dX6_take_8 : decode cX6_take 8 = .ok (.getfield 25, 3) := by decide +kernel
theorem dX6_take_11 : decode cX6_take 11 = .ok (.bipush 120, 2) := by decide +kernel
theorem dX6_take_13 : decode cX6_take 13 = .ok (.if_icmp .lt 5, 3) := by decide +kernel
theorem dX6_take_16 : decode cX6_take 16 = .ok (.iconst 0, 1) := by decide +kernel
theorem dX6_take_17 : decode cX6_take 17 = .ok (.ireturn, 1) := by decide +kernel
theorem dX6_take_18 : decode cX6_take 18 = .ok (.aload_n 0, 1) := by decide +kernel
theorem dX6_take_19 : decode cX6_take 19 = .ok (.getfield 9, 3) := by decide +kernel
theorem dX6_take_22 : decode cX6_take 22 = .ok (.aload_n 0, 1) := by decide +kernel
theorem dX6_take_23 : decode cX6_take 23 = .ok (.getfield 25, 3) := by decide +kernel
theorem dX6_take_26 : decode cX6_take 26 = .ok (.iload_n 1, 1) := by decide +kernel
theorem dX6_take_27 : decode cX6_take 27 = .ok (.iastore, 1) := by decide +kernel
theorem dX6_take_28 : decode cX6_take 28 = .ok (.aload_n 0, 1) := by decide +kernel
theorem dX6_take_29 : decode cX6_take 29 = .ok (.dup, 1) := by decide +kernel
theorem dX6_take_30 : decode cX6_take 30 = .ok (.getfield 25, 3) := by decide +kernel
theorem dX6_take_33 : decode cX6_take 33 = .ok (.iconst 1, 1) := by decide +kernel
theorem dX6_take_34 : decode cX6_take 34 = .ok (.iadd, 1) := by decide +kernel
theorem dX6_take_35 : decode cX6_take 35 = .ok (.putfield 25, 3) := by decide +kernel
theorem dX6_take_38 : decode cX6_take 38 = .ok (.iconst 1, 1) := by decide +kernel
theorem dX6_take_39 : decode cX6_take 39 = .ok (.ireturn, 1) := by decide +kernel
theorem dX6_read_0 : decode cX6_read 0 = .ok (.aload_n 0, 1) := by decide +kernel
theorem dX6_read_1 : decode cX6_read 1 = .ok (.iconst 0, 1) := by decide +kernel
theorem dX6_read_2 : decode cX6_read 2 = .ok (.putfield 29, 3) := by decide +kernel
theorem dX6_read_5 : decode cX6_read 5 = .ok (.aload_n 0, 1) := by decide +kernel
theorem dX6_read_6 : decode cX6_read 6 = .ok (.iconst (-1), 1) := by decide +kernel
theorem dX6_read_7 : decode cX6_read 7 = .ok (.putfield 32, 3) := by decide +kernel
theorem dX6_read_10 : decode cX6_read 10 = .ok (.aload_n 0, 1) := by decide +kernel
theorem dX6_read_11 : decode cX6_read 11 = .ok (.iconst 0, 1) := by decide +kernel
theorem dX6_read_12 : decode cX6_read 12 = .ok (.putfield 35, 3) := by decide +kernel
theorem dX6_read_15 : decode cX6_read 15 = .ok (.iconst 1, 1) := by decide +kernel
theorem dX6_read_16 : decode cX6_read 16 = .ok (.istore_n 1, 1) := by decide +kernel
theorem dX6_read_17 : decode cX6_read 17 = .ok (.iconst 0, 1) := by decide +kernel
theorem dX6_read_18 : decode cX6_read 18 = .ok (.istore_n 2, 1) := by decide +kernel
theorem dX6_read_19 : decode cX6_read 19 = .ok (.iload_n 2, 1) := by decide +kernel
theorem dX6_read_20 : decode cX6_read 20 = .ok (.bipush 120, 2) := by decide +kernel
theorem dX6_read_22 : decode cX6_read 22 = .ok (.if_icmp .gt 18, 3) := by decide +kernel
theorem dX6_read_25 : decode cX6_read 25 = .ok (.iload_n 1, 1) := by decide +kernel
theorem dX6_read_26 : decode cX6_read 26 = .ok (.ifCond .eq 14, 3) := by decide +kernel
theorem dX6_read_29 : decode cX6_read 29 = .ok (.aload_n 0, 1) := by decide +kernel
theorem dX6_read_30 : decode cX6_read 30 = .ok (.invokevirtual 41, 3) := by decide +kernel
theorem dX6_read_33 : decode cX6_read 33 = .ok (.istore_n 1, 1) := by decide +kernel
theorem dX6_read_34 : decode cX6_read 34 = .ok (.iinc 2 1, 3) := by decide +kernel
theorem dX6_read_37 : decode cX6_read 37 = .ok (.goto (-18), 3) := by decide +kernel
theorem dX6_read_40 : decode cX6_read 40 = .ok (.aload_n 0, 1) := by decide +kernel
theorem dX6_read_41 : decode cX6_read 41 = .ok (.getfield 29, 3) := by decide +kernel
theorem dX6_read_44 : decode cX6_read 44 = .ok (.aload_n 0, 1) := by decide +kernel
theorem dX6_read_45 : decode cX6_read 45 = .ok (.getfield 25, 3) := by decide +kernel
theorem dX6_read_48 : decode cX6_read 48 = .ok (.if_icmp .ge 7, 3) := by decide +kernel
theorem dX6_read_51 : decode cX6_read 51 = .ok (.aload_n 0, 1) := by decide +kernel
theorem dX6_read_52 : decode cX6_read 52 = .ok (.invokevirtual 45, 3) := by decide +kernel
theorem dX6_read_55 : decode cX6_read 55 = .ok (.aload_n 0, 1) := by decide +kernel
theorem dX6_read_56 : decode cX6_read 56 = .ok (.getfield 32, 3) := by decide +kernel
theorem dX6_read_59 : decode cX6_read 59 = .ok (.ifCond .ge 29, 3) := by decide +kernel
theorem dX6_read_62 : decode cX6_read 62 = .ok (.aload_n 0, 1) := by decide +kernel
theorem dX6_read_63 : decode cX6_read 63 = .ok (.getfield 13, 3) := by decide +kernel
theorem dX6_read_66 : decode cX6_read 66 = .ok (.iconst 0, 1) := by decide +kernel
theorem dX6_read_67 : decode cX6_read 67 = .ok (.aload_n 0, 1) := by decide +kernel
theorem dX6_read_68 : decode cX6_read 68 = .ok (.getfield 16, 3) := by decide +kernel
theorem dX6_read_71 : decode cX6_read 71 = .ok (.iconst 0, 1) := by decide +kernel
theorem dX6_read_72 : decode cX6_read 72 = .ok (.aload_n 0, 1) := by decide +kernel
theorem dX6_read_73 : decode cX6_read 73 = .ok (.getfield 16, 3) := by decide +kernel
theorem dX6_read_76 : decode cX6_read 76 = .ok (.arraylength, 1) := by decide +kernel
theorem dX6_read_77 : decode cX6_read 77 = .ok (.invokestatic 48, 3) := by decide +kernel
theorem dX6_read_80 : decode cX6_read 80 = .ok (.aload_n 0, 1) := by decide +kernel
theorem dX6_read_81 : decode cX6_read 81 = .ok (.aload_n 0, 1) := by decide +kernel
theorem dX6_read_82 : decode cX6_read 82 = .ok (.getfield 35, 3) := by decide +kernel
theorem dX6_read_85 : decode cX6_read 85 = .ok (.putfield 38, 3) := by decide +kernel
theorem dX6_read_88 : decode cX6_read 88 = .ok (.aload_n 0, 1) := by decide +kernel
theorem dX6_read_89 : decode cX6_read 89 = .ok (.iconst 0, 1) := by decide +kernel
theorem dX6_read_90 : decode cX6_read 90 = .ok (.putfield 25, 3) := by decide +kernel
theorem dX6_read_93 : decode cX6_read 93 = .ok (.aload_n 0, 1) := by decide +kernel
theorem dX6_read_94 : decode cX6_read 94 = .ok (.getfield 32, 3) := by decide +kernel
theorem dX6_read_97 : decode cX6_read 97 = .ok (.ireturn, 1) := by decide +kernel
theorem dX6_readLine_0 : decode cX6_readLine 0 = .ok (.aload_n 0, 1) := by decide +kernel
theorem dX6_readLine_1 : decode cX6_readLine 1 = .ok (.iconst 0, 1) := by decide +kernel
theorem dX6_readLine_2 : decode cX6_readLine 2 = .ok (.iconst 0, 1) := by decide +kernel
theorem dX6_readLine_3 : decode cX6_readLine 3 = .ok (.invokevirtual 54, 3) := by decide +kernel
theorem dX6_readLine_6 : decode cX6_readLine 6 = .ok (.aload_n 0, 1) := by decide +kernel
theorem dX6_readLine_7 : decode cX6_readLine 7 = .ok (.invokevirtual 58, 3) := by decide +kernel
theorem dX6_readLine_10 : decode cX6_readLine 10 = .ok (.bipush 63, 2) := by decide +kernel
theorem dX6_readLine_12 : decode cX6_readLine 12 = .ok (.if_icmp .ne 7, 3) := by decide +kernel
theorem dX6_readLine_15 : decode cX6_readLine 15 = .ok (.iconst 1, 1) := by decide +kernel
theorem dX6_readLine_16 : decode cX6_readLine 16 = .ok (.goto 4, 3) := by decide +kernel
theorem dX6_readLine_19 : decode cX6_readLine 19 = .ok (.iconst 0, 1) := by decide +kernel
theorem dX6_readLine_20 : decode cX6_readLine 20 = .ok (.istore_n 1, 1) := by decide +kernel
theorem dX6_readLine_21 : decode cX6_readLine 21 = .ok (.aload_n 0, 1) := by decide +kernel
theorem dX6_readLine_22 : decode cX6_readLine 22 = .ok (.getfield 35, 3) := by decide +kernel
theorem dX6_readLine_25 : decode cX6_readLine 25 = .ok (.istore_n 2, 1) := by decide +kernel
theorem dX6_readLine_26 : decode cX6_readLine 26 = .ok (.iload_n 1, 1) := by decide +kernel
theorem dX6_readLine_27 : decode cX6_readLine 27 = .ok (.ifCond .eq 26, 3) := by decide +kernel
theorem dX6_readLine_30 : decode cX6_readLine 30 = .ok (.aload_n 0, 1) := by decide +kernel
theorem dX6_readLine_31 : decode cX6_readLine 31 = .ok (.dup, 1) := by decide +kernel
theorem dX6_readLine_32 : decode cX6_readLine 32 = .ok (.getfield 29, 3) := by decide +kernel
theorem dX6_readLine_35 : decode cX6_readLine 35 = .ok (.iconst 1, 1) := by decide +kernel
theorem dX6_readLine_36 : decode cX6_readLine 36 = .ok (.iadd, 1) := by decide +kernel
theorem dX6_readLine_37 : decode cX6_readLine 37 = .ok (.putfield 29, 3) := by decide +kernel
theorem dX6_readLine_40 : decode cX6_readLine 40 = .ok (.aload_n 0, 1) := by decide +kernel
theorem dX6_readLine_41 : decode cX6_readLine 41 = .ok (.sipush 13000, 3) := by decide +kernel
theorem dX6_readLine_44 : decode cX6_readLine 44 = .ok (.invokevirtual 62, 3) := by decide +kernel
theorem dX6_readLine_47 : decode cX6_readLine 47 = .ok (.aload_n 0, 1) := by decide +kernel
theorem dX6_readLine_48 : decode cX6_readLine 48 = .ok (.iconst 0, 1) := by decide +kernel
theorem dX6_readLine_49 : decode cX6_readLine 49 = .ok (.iconst 0, 1) := by decide +kernel
theorem dX6_readLine_50 : decode cX6_readLine 50 = .ok (.invokevirtual 54, 3) := by decide +kernel
theorem dX6_readLine_53 : decode cX6_readLine 53 = .ok (.aload_n 0, 1) := by decide +kernel
theorem dX6_readLine_54 : decode cX6_readLine 54 = .ok (.sipush 12000, 3) := by decide +kernel
theorem dX6_readLine_57 : decode cX6_readLine 57 = .ok (.invokevirtual 62, 3) := by decide +kernel
theorem dX6_readLine_60 : decode cX6_readLine 60 = .ok (.iload_n 1, 1) := by decide +kernel
theorem dX6_readLine_61 : decode cX6_readLine 61 = .ok (.ifCond .eq 26, 3) := by decide +kernel
theorem dX6_readLine_64 : decode cX6_readLine 64 = .ok (.iload_n 2, 1) := by decide +kernel
theorem dX6_readLine_65 : decode cX6_readLine 65 = .ok (.aload_n 0, 1) := by decide +kernel
theorem dX6_readLine_66 : decode cX6_readLine 66 = .ok (.getfield 13, 3) := by decide +kernel
theorem dX6_readLine_69 : decode cX6_readLine 69 = .ok (.arraylength, 1) := by decide +kernel
theorem dX6_readLine_70 : decode cX6_readLine 70 = .ok (.if_icmp .ge 17, 3) := by decide +kernel
theorem dX6_readLine_73 : decode cX6_readLine 73 = .ok (.aload_n 0, 1) := by decide +kernel
theorem dX6_readLine_74 : decode cX6_readLine 74 = .ok (.getfield 13, 3) := by decide +kernel
theorem dX6_readLine_77 : decode cX6_readLine 77 = .ok (.iload_n 2, 1) := by decide +kernel
theorem dX6_readLine_78 : decode cX6_readLine 78 = .ok (.sipush 13000, 3) := by decide +kernel
theorem dX6_readLine_81 : decode cX6_readLine 81 = .ok (.aload_n 0, 1) := by decide +kernel
theorem dX6_readLine_82 : decode cX6_readLine 82 = .ok (.getfield 35, 3) := by decide +kernel
theorem dX6_readLine_85 : decode cX6_readLine 85 = .ok (.iadd, 1) := by decide +kernel
theorem dX6_readLine_86 : decode cX6_readLine 86 = .ok (.iastore, 1) := by decide +kernel
theorem dX6_readLine_87 : decode cX6_readLine 87 = .ok (.aload_n 0, 1) := by decide +kernel
theorem dX6_readLine_88 : decode cX6_readLine 88 = .ok (.invokevirtual 58, 3) := by decide +kernel
theorem dX6_readLine_91 : decode cX6_readLine 91 = .ok (.bipush 59, 2) := by decide +kernel
theorem dX6_readLine_93 : decode cX6_readLine 93 = .ok (.if_icmp .eq 5, 3) := by decide +kernel
theorem dX6_readLine_96 : decode cX6_readLine 96 = .ok (.iconst 0, 1) := by decide +kernel
theorem dX6_readLine_97 : decode cX6_readLine 97 = .ok (.ireturn, 1) := by decide +kernel
theorem dX6_readLine_98 : decode cX6_readLine 98 = .ok (.aload_n 0, 1) := by decide +kernel
theorem dX6_readLine_99 : decode cX6_readLine 99 = .ok (.dup, 1) := by decide +kernel
theorem dX6_readLine_100 : decode cX6_readLine 100 = .ok (.getfield 29, 3) := by decide +kernel
theorem dX6_readLine_103 : decode cX6_readLine 103 = .ok (.iconst 1, 1) := by decide +kernel
theorem dX6_readLine_104 : decode cX6_readLine 104 = .ok (.iadd, 1) := by decide +kernel
theorem dX6_readLine_105 : decode cX6_readLine 105 = .ok (.putfield 29, 3) := by decide +kernel
theorem dX6_readLine_108 : decode cX6_readLine 108 = .ok (.iconst 1, 1) := by decide +kernel
theorem dX6_readLine_109 : decode cX6_readLine 109 = .ok (.ireturn, 1) := by decide +kernel
theorem dX6_readLevel_0 : decode cX6_readLevel 0 = .ok (.iload_n 1, 1) := by decide +kernel
theorem dX6_readLevel_1 : decode cX6_readLevel 1 = .ok (.iconst 5, 1) := by decide +kernel
theorem dX6_readLevel_2 : decode cX6_readLevel 2 = .ok (.if_icmp .lt 9, 3) := by decide +kernel
theorem dX6_readLevel_5 : decode cX6_readLevel 5 = .ok (.aload_n 0, 1) := by decide +kernel
theorem dX6_readLevel_6 : decode cX6_readLevel 6 = .ok (.iload_n 2, 1) := by decide +kernel
theorem dX6_readLevel_7 : decode cX6_readLevel 7 = .ok (.invokevirtual 66, 3) := by decide +kernel
theorem dX6_readLevel_10 : decode cX6_readLevel 10 = .ok (.return_, 1) := by decide +kernel
theorem dX6_readLevel_11 : decode cX6_readLevel 11 = .ok (.aload_n 0, 1) := by decide +kernel
theorem dX6_readLevel_12 : decode cX6_readLevel 12 = .ok (.iload_n 1, 1) := by decide +kernel
theorem dX6_readLevel_13 : decode cX6_readLevel 13 = .ok (.iconst 1, 1) := by decide +kernel
theorem dX6_readLevel_14 : decode cX6_readLevel 14 = .ok (.iadd, 1) := by decide +kernel
theorem dX6_readLevel_15 : decode cX6_readLevel 15 = .ok (.iload_n 2, 1) := by decide +kernel
theorem dX6_readLevel_16 : decode cX6_readLevel 16 = .ok (.invokevirtual 54, 3) := by decide +kernel
theorem dX6_readLevel_19 : decode cX6_readLevel 19 = .ok (.aload_n 0, 1) := by decide +kernel
theorem dX6_readLevel_20 : decode cX6_readLevel 20 = .ok (.invokevirtual 58, 3) := by decide +kernel
theorem dX6_readLevel_23 : decode cX6_readLevel 23 = .ok (.invokestatic 69, 3) := by decide +kernel
theorem dX6_readLevel_26 : decode cX6_readLevel 26 = .ok (.iload_n 1, 1) := by decide +kernel
theorem dX6_readLevel_27 : decode cX6_readLevel 27 = .ok (.if_icmp .ne 7, 3) := by decide +kernel
theorem dX6_readLevel_30 : decode cX6_readLevel 30 = .ok (.iconst 1, 1) := by decide +kernel
theorem dX6_readLevel_31 : decode cX6_readLevel 31 = .ok (.goto 4, 3) := by decide +kernel
theorem dX6_readLevel_34 : decode cX6_readLevel 34 = .ok (.iconst 0, 1) := by decide +kernel
theorem dX6_readLevel_35 : decode cX6_readLevel 35 = .ok (.istore_n 3, 1) := by decide +kernel
theorem dX6_readLevel_36 : decode cX6_readLevel 36 = .ok (.iconst 0, 1) := by decide +kernel
theorem dX6_readLevel_37 : decode cX6_readLevel 37 = .ok (.istore 4, 2) := by decide +kernel
theorem dX6_readLevel_39 : decode cX6_readLevel 39 = .ok (.iload 4, 2) := by decide +kernel
theorem dX6_readLevel_41 : decode cX6_readLevel 41 = .ok (.bipush 120, 2) := by decide +kernel
theorem dX6_readLevel_43 : decode cX6_readLevel 43 = .ok (.if_icmp .ge 69, 3) := by decide +kernel
theorem dX6_readLevel_46 : decode cX6_readLevel 46 = .ok (.iload_n 3, 1) := by decide +kernel
theorem dX6_readLevel_47 : decode cX6_readLevel 47 = .ok (.ifCond .eq 65, 3) := by decide +kernel
theorem dX6_readLevel_50 : decode cX6_readLevel 50 = .ok (.aload_n 0, 1) := by decide +kernel
theorem dX6_readLevel_51 : decode cX6_readLevel 51 = .ok (.invokevirtual 58, 3) := by decide +kernel
theorem dX6_readLevel_54 : decode cX6_readLevel 54 = .ok (.istore 5, 2) := by decide +kernel
theorem dX6_readLevel_56 : decode cX6_readLevel 56 = .ok (.aload_n 0, 1) := by decide +kernel
theorem dX6_readLevel_57 : decode cX6_readLevel 57 = .ok (.dup, 1) := by decide +kernel
theorem dX6_readLevel_58 : decode cX6_readLevel 58 = .ok (.getfield 29, 3) := by decide +kernel
theorem dX6_readLevel_61 : decode cX6_readLevel 61 = .ok (.iconst 1, 1) := by decide +kernel
theorem dX6_readLevel_62 : decode cX6_readLevel 62 = .ok (.iadd, 1) := by decide +kernel
theorem dX6_readLevel_63 : decode cX6_readLevel 63 = .ok (.putfield 29, 3) := by decide +kernel
theorem dX6_readLevel_66 : decode cX6_readLevel 66 = .ok (.aload_n 0, 1) := by decide +kernel
theorem dX6_readLevel_67 : decode cX6_readLevel 67 = .ok (.iload_n 1, 1) := by decide +kernel
theorem dX6_readLevel_68 : decode cX6_readLevel 68 = .ok (.iconst 1, 1) := by decide +kernel
theorem dX6_readLevel_69 : decode cX6_readLevel 69 = .ok (.iadd, 1) := by decide +kernel
theorem dX6_readLevel_70 : decode cX6_readLevel 70 = .ok (.iload_n 2, 1) := by decide +kernel
theorem dX6_readLevel_71 : decode cX6_readLevel 71 = .ok (.invokevirtual 54, 3) := by decide +kernel
theorem dX6_readLevel_74 : decode cX6_readLevel 74 = .ok (.aload_n 0, 1) := by decide +kernel
theorem dX6_readLevel_75 : decode cX6_readLevel 75 = .ok (.sipush 11000, 3) := by decide +kernel
theorem dX6_readLevel_78 : decode cX6_readLevel 78 = .ok (.iload 5, 2) := by decide +kernel
theorem dX6_readLevel_80 : decode cX6_readLevel 80 = .ok (.iadd, 1) := by decide +kernel
theorem dX6_readLevel_81 : decode cX6_readLevel 81 = .ok (.invokevirtual 62, 3) := by decide +kernel
theorem dX6_readLevel_84 : decode cX6_readLevel 84 = .ok (.iload_n 1, 1) := by decide +kernel
theorem dX6_readLevel_85 : decode cX6_readLevel 85 = .ok (.iconst 2, 1) := by decide +kernel
theorem dX6_readLevel_86 : decode cX6_readLevel 86 = .ok (.if_icmp .eq 18, 3) := by decide +kernel
theorem dX6_readLevel_89 : decode cX6_readLevel 89 = .ok (.aload_n 0, 1) := by decide +kernel
theorem dX6_readLevel_90 : decode cX6_readLevel 90 = .ok (.invokevirtual 58, 3) := by decide +kernel
theorem dX6_readLevel_93 : decode cX6_readLevel 93 = .ok (.invokestatic 69, 3) := by decide +kernel
theorem dX6_readLevel_96 : decode cX6_readLevel 96 = .ok (.iload_n 1, 1) := by decide +kernel
theorem dX6_readLevel_97 : decode cX6_readLevel 97 = .ok (.if_icmp .ne 7, 3) := by decide +kernel
theorem dX6_readLevel_100 : decode cX6_readLevel 100 = .ok (.iconst 1, 1) := by decide +kernel
theorem dX6_readLevel_101 : decode cX6_readLevel 101 = .ok (.goto 4, 3) := by decide +kernel
theorem dX6_readLevel_104 : decode cX6_readLevel 104 = .ok (.iconst 0, 1) := by decide +kernel
theorem dX6_readLevel_105 : decode cX6_readLevel 105 = .ok (.istore_n 3, 1) := by decide +kernel
theorem dX6_readLevel_106 : decode cX6_readLevel 106 = .ok (.iinc 4 1, 3) := by decide +kernel
theorem dX6_readLevel_109 : decode cX6_readLevel 109 = .ok (.goto (-70), 3) := by decide +kernel
theorem dX6_readLevel_112 : decode cX6_readLevel 112 = .ok (.return_, 1) := by decide +kernel
theorem dX6_readOperand_0 : decode cX6_readOperand 0 = .ok (.aload_n 0, 1) := by decide +kernel
theorem dX6_readOperand_1 : decode cX6_readOperand 1 = .ok (.invokevirtual 58, 3) := by decide +kernel
theorem dX6_readOperand_4 : decode cX6_readOperand 4 = .ok (.istore_n 2, 1) := by decide +kernel
theorem dX6_readOperand_5 : decode cX6_readOperand 5 = .ok (.iload_n 2, 1) := by decide +kernel
theorem dX6_readOperand_6 : decode cX6_readOperand 6 = .ok (.invokestatic 73, 3) := by decide +kernel
theorem dX6_readOperand_9 : decode cX6_readOperand 9 = .ok (.ifCond .eq 10, 3) := by decide +kernel
theorem dX6_readOperand_12 : decode cX6_readOperand 12 = .ok (.aload_n 0, 1) := by decide +kernel
theorem dX6_readOperand_13 : decode cX6_readOperand 13 = .ok (.invokevirtual 77, 3) := by decide +kernel
theorem dX6_readOperand_16 : decode cX6_readOperand 16 = .ok (.goto 158, 3) := by decide +kernel
theorem dX6_readOperand_19 : decode cX6_readOperand 19 = .ok (.iload_n 2, 1) := by decide +kernel
theorem dX6_readOperand_20 : decode cX6_readOperand 20 = .ok (.invokestatic 80, 3) := by decide +kernel
theorem dX6_readOperand_23 : decode cX6_readOperand 23 = .ok (.ifCond .lt 28, 3) := by decide +kernel
theorem dX6_readOperand_26 : decode cX6_readOperand 26 = .ok (.aload_n 0, 1) := by decide +kernel
theorem dX6_readOperand_27 : decode cX6_readOperand 27 = .ok (.dup, 1) := by decide +kernel
theorem dX6_readOperand_28 : decode cX6_readOperand 28 = .ok (.getfield 29, 3) := by decide +kernel
theorem dX6_readOperand_31 : decode cX6_readOperand 31 = .ok (.iconst 1, 1) := by decide +kernel
theorem dX6_readOperand_32 : decode cX6_readOperand 32 = .ok (.iadd, 1) := by decide +kernel
theorem dX6_readOperand_33 : decode cX6_readOperand 33 = .ok (.putfield 29, 3) := by decide +kernel
theorem dX6_readOperand_36 : decode cX6_readOperand 36 = .ok (.aload_n 0, 1) := by decide +kernel
theorem dX6_readOperand_37 : decode cX6_readOperand 37 = .ok (.sipush 10000, 3) := by decide +kernel
theorem dX6_readOperand_40 : decode cX6_readOperand 40 = .ok (.iload_n 2, 1) := by decide +kernel
theorem dX6_readOperand_41 : decode cX6_readOperand 41 = .ok (.invokestatic 80, 3) := by decide +kernel
theorem dX6_readOperand_44 : decode cX6_readOperand 44 = .ok (.iadd, 1) := by decide +kernel
theorem dX6_readOperand_45 : decode cX6_readOperand 45 = .ok (.invokevirtual 62, 3) := by decide +kernel
theorem dX6_readOperand_48 : decode cX6_readOperand 48 = .ok (.goto 126, 3) := by decide +kernel
theorem dX6_readOperand_51 : decode cX6_readOperand 51 = .ok (.iload_n 1, 1) := by decide +kernel
theorem dX6_readOperand_52 : decode cX6_readOperand 52 = .ok (.bipush 6, 2) := by decide +kernel
theorem dX6_readOperand_54 : decode cX6_readOperand 54 = .ok (.if_icmp .lt 10, 3) := by decide +kernel
theorem dX6_readOperand_57 : decode cX6_readOperand 57 = .ok (.aload_n 0, 1) := by decide +kernel
theorem dX6_readOperand_58 : decode cX6_readOperand 58 = .ok (.invokevirtual 45, 3) := by decide +kernel
theorem dX6_readOperand_61 : decode cX6_readOperand 61 = .ok (.goto 113, 3) := by decide +kernel
theorem dX6_readOperand_64 : decode cX6_readOperand 64 = .ok (.iload_n 2, 1) := by decide +kernel
theorem dX6_readOperand_65 : decode cX6_readOperand 65 = .ok (.bipush 40, 2) := by decide +kernel
theorem dX6_readOperand_67 : decode cX6_readOperand 67 = .ok (.if_icmp .ne 50, 3) := by decide +kernel
theorem dX6_readOperand_70 : decode cX6_readOperand 70 = .ok (.aload_n 0, 1) := by decide +kernel
theorem dX6_readOperand_71 : decode cX6_readOperand 71 = .ok (.dup, 1) := by decide +kernel
theorem dX6_readOperand_72 : decode cX6_readOperand 72 = .ok (.getfield 29, 3) := by decide +kernel
theorem dX6_readOperand_75 : decode cX6_readOperand 75 = .ok (.iconst 1, 1) := by decide +kernel
theorem dX6_readOperand_76 : decode cX6_readOperand 76 = .ok (.iadd, 1) := by decide +kernel
theorem dX6_readOperand_77 : decode cX6_readOperand 77 = .ok (.putfield 29, 3) := by decide +kernel
theorem dX6_readOperand_80 : decode cX6_readOperand 80 = .ok (.aload_n 0, 1) := by decide +kernel
theorem dX6_readOperand_81 : decode cX6_readOperand 81 = .ok (.iconst 0, 1) := by decide +kernel
theorem dX6_readOperand_82 : decode cX6_readOperand 82 = .ok (.iload_n 1, 1) := by decide +kernel
theorem dX6_readOperand_83 : decode cX6_readOperand 83 = .ok (.iconst 1, 1) := by decide +kernel
theorem dX6_readOperand_84 : decode cX6_readOperand 84 = .ok (.iadd, 1) := by decide +kernel
theorem dX6_readOperand_85 : decode cX6_readOperand 85 = .ok (.invokevirtual 54, 3) := by decide +kernel
theorem dX6_readOperand_88 : decode cX6_readOperand 88 = .ok (.aload_n 0, 1) := by decide +kernel
theorem dX6_readOperand_89 : decode cX6_readOperand 89 = .ok (.invokevirtual 58, 3) := by decide +kernel
theorem dX6_readOperand_92 : decode cX6_readOperand 92 = .ok (.bipush 41, 2) := by decide +kernel
theorem dX6_readOperand_94 : decode cX6_readOperand 94 = .ok (.if_icmp .ne 16, 3) := by decide +kernel
theorem dX6_readOperand_97 : decode cX6_readOperand 97 = .ok (.aload_n 0, 1) := by decide +kernel
theorem dX6_readOperand_98 : decode cX6_readOperand 98 = .ok (.dup, 1) := by decide +kernel
theorem dX6_readOperand_99 : decode cX6_readOperand 99 = .ok (.getfield 29, 3) := by decide +kernel
theorem dX6_readOperand_102 : decode cX6_readOperand 102 = .ok (.iconst 1, 1) := by decide +kernel
theorem dX6_readOperand_103 : decode cX6_readOperand 103 = .ok (.iadd, 1) := by decide +kernel
theorem dX6_readOperand_104 : decode cX6_readOperand 104 = .ok (.putfield 29, 3) := by decide +kernel
theorem dX6_readOperand_107 : decode cX6_readOperand 107 = .ok (.goto 67, 3) := by decide +kernel
theorem dX6_readOperand_110 : decode cX6_readOperand 110 = .ok (.aload_n 0, 1) := by decide +kernel
theorem dX6_readOperand_111 : decode cX6_readOperand 111 = .ok (.invokevirtual 45, 3) := by decide +kernel
theorem dX6_readOperand_114 : decode cX6_readOperand 114 = .ok (.goto 60, 3) := by decide +kernel
theorem dX6_readOperand_117 : decode cX6_readOperand 117 = .ok (.iload_n 2, 1) := by decide +kernel
theorem dX6_readOperand_118 : decode cX6_readOperand 118 = .ok (.bipush 33, 2) := by decide +kernel
theorem dX6_readOperand_120 : decode cX6_readOperand 120 = .ok (.if_icmp .eq 9, 3) := by decide +kernel
theorem dX6_readOperand_123 : decode cX6_readOperand 123 = .ok (.iload_n 2, 1) := by decide +kernel
theorem dX6_readOperand_124 : decode cX6_readOperand 124 = .ok (.bipush 45, 2) := by decide +kernel
theorem dX6_readOperand_126 : decode cX6_readOperand 126 = .ok (.if_icmp .ne 44, 3) := by decide +kernel
theorem dX6_readOperand_129 : decode cX6_readOperand 129 = .ok (.aload_n 0, 1) := by decide +kernel
theorem dX6_readOperand_130 : decode cX6_readOperand 130 = .ok (.dup, 1) := by decide +kernel
theorem dX6_readOperand_131 : decode cX6_readOperand 131 = .ok (.getfield 29, 3) := by decide +kernel
theorem dX6_readOperand_134 : decode cX6_readOperand 134 = .ok (.iconst 1, 1) := by decide +kernel
theorem dX6_readOperand_135 : decode cX6_readOperand 135 = .ok (.iadd, 1) := by decide +kernel
theorem dX6_readOperand_136 : decode cX6_readOperand 136 = .ok (.putfield 29, 3) := by decide +kernel
theorem dX6_readOperand_139 : decode cX6_readOperand 139 = .ok (.aload_n 0, 1) := by decide +kernel
theorem dX6_readOperand_140 : decode cX6_readOperand 140 = .ok (.iload_n 1, 1) := by decide +kernel
theorem dX6_readOperand_141 : decode cX6_readOperand 141 = .ok (.iconst 1, 1) := by decide +kernel
theorem dX6_readOperand_142 : decode cX6_readOperand 142 = .ok (.iadd, 1) := by decide +kernel
theorem dX6_readOperand_143 : decode cX6_readOperand 143 = .ok (.invokevirtual 66, 3) := by decide +kernel
theorem dX6_readOperand_146 : decode cX6_readOperand 146 = .ok (.aload_n 0, 1) := by decide +kernel
theorem dX6_readOperand_147 : decode cX6_readOperand 147 = .ok (.sipush 11000, 3) := by decide +kernel
theorem dX6_readOperand_150 : decode cX6_readOperand 150 = .ok (.iload_n 2, 1) := by decide +kernel
theorem dX6_readOperand_151 : decode cX6_readOperand 151 = .ok (.bipush 45, 2) := by decide +kernel
theorem dX6_readOperand_153 : decode cX6_readOperand 153 = .ok (.if_icmp .ne 8, 3) := by decide +kernel
theorem dX6_readOperand_156 : decode cX6_readOperand 156 = .ok (.bipush 126, 2) := by decide +kernel
theorem dX6_readOperand_158 : decode cX6_readOperand 158 = .ok (.goto 5, 3) := by decide +kernel
theorem dX6_readOperand_161 : decode cX6_readOperand 161 = .ok (.bipush 33, 2) := by decide +kernel
theorem dX6_readOperand_163 : decode cX6_readOperand 163 = .ok (.iadd, 1) := by decide +kernel
theorem dX6_readOperand_164 : decode cX6_readOperand 164 = .ok (.invokevirtual 62, 3) := by decide +kernel
theorem dX6_readOperand_167 : decode cX6_readOperand 167 = .ok (.goto 7, 3) := by decide +kernel
theorem dX6_readOperand_170 : decode cX6_readOperand 170 = .ok (.aload_n 0, 1) := by decide +kernel
theorem dX6_readOperand_171 : decode cX6_readOperand 171 = .ok (.invokevirtual 45, 3) := by decide +kernel
theorem dX6_readOperand_174 : decode cX6_readOperand 174 = .ok (.return_, 1) := by decide +kernel
theorem dX6_readNumber_0 : decode cX6_readNumber 0 = .ok (.iconst 0, 1) := by decide +kernel
theorem dX6_readNumber_1 : decode cX6_readNumber 1 = .ok (.istore_n 1, 1) := by decide +kernel
theorem dX6_readNumber_2 : decode cX6_readNumber 2 = .ok (.iconst 0, 1) := by decide +kernel
theorem dX6_readNumber_3 : decode cX6_readNumber 3 = .ok (.istore_n 2, 1) := by decide +kernel
theorem dX6_readNumber_4 : decode cX6_readNumber 4 = .ok (.iload_n 2, 1) := by decide +kernel
theorem dX6_readNumber_5 : decode cX6_readNumber 5 = .ok (.iconst 4, 1) := by decide +kernel
theorem dX6_readNumber_6 : decode cX6_readNumber 6 = .ok (.if_icmp .ge 42, 3) := by decide +kernel
theorem dX6_readNumber_9 : decode cX6_readNumber 9 = .ok (.aload_n 0, 1) := by decide +kernel
theorem dX6_readNumber_10 : decode cX6_readNumber 10 = .ok (.invokevirtual 58, 3) := by decide +kernel
theorem dX6_readNumber_13 : decode cX6_readNumber 13 = .ok (.invokestatic 73, 3) := by decide +kernel
theorem dX6_readNumber_16 : decode cX6_readNumber 16 = .ok (.ifCond .eq 32, 3) := by decide +kernel
theorem dX6_readNumber_19 : decode cX6_readNumber 19 = .ok (.iload_n 1, 1) := by decide +kernel
theorem dX6_readNumber_20 : decode cX6_readNumber 20 = .ok (.bipush 10, 2) := by decide +kernel
theorem dX6_readNumber_22 : decode cX6_readNumber 22 = .ok (.imul, 1) := by decide +kernel
theorem dX6_readNumber_23 : decode cX6_readNumber 23 = .ok (.aload_n 0, 1) := by decide +kernel
theorem dX6_readNumber_24 : decode cX6_readNumber 24 = .ok (.invokevirtual 58, 3) := by decide +kernel
theorem dX6_readNumber_27 : decode cX6_readNumber 27 = .ok (.iadd, 1) := by decide +kernel
theorem dX6_readNumber_28 : decode cX6_readNumber 28 = .ok (.bipush 48, 2) := by decide +kernel
theorem dX6_readNumber_30 : decode cX6_readNumber 30 = .ok (.isub, 1) := by decide +kernel
theorem dX6_readNumber_31 : decode cX6_readNumber 31 = .ok (.istore_n 1, 1) := by decide +kernel
theorem dX6_readNumber_32 : decode cX6_readNumber 32 = .ok (.aload_n 0, 1) := by decide +kernel
theorem dX6_readNumber_33 : decode cX6_readNumber 33 = .ok (.dup, 1) := by decide +kernel
theorem dX6_readNumber_34 : decode cX6_readNumber 34 = .ok (.getfield 29, 3) := by decide +kernel
theorem dX6_readNumber_37 : decode cX6_readNumber 37 = .ok (.iconst 1, 1) := by decide +kernel
theorem dX6_readNumber_38 : decode cX6_readNumber 38 = .ok (.iadd, 1) := by decide +kernel
theorem dX6_readNumber_39 : decode cX6_readNumber 39 = .ok (.putfield 29, 3) := by decide +kernel
theorem dX6_readNumber_42 : decode cX6_readNumber 42 = .ok (.iinc 2 1, 3) := by decide +kernel
theorem dX6_readNumber_45 : decode cX6_readNumber 45 = .ok (.goto (-41), 3) := by decide +kernel
theorem dX6_readNumber_48 : decode cX6_readNumber 48 = .ok (.aload_n 0, 1) := by decide +kernel
theorem dX6_readNumber_49 : decode cX6_readNumber 49 = .ok (.iload_n 1, 1) := by decide +kernel
theorem dX6_readNumber_50 : decode cX6_readNumber 50 = .ok (.invokevirtual 62, 3) := by decide +kernel
theorem dX6_readNumber_53 : decode cX6_readNumber 53 = .ok (.return_, 1) := by decide +kernel
theorem dX6_next_0 : decode cX6_next 0 = .ok (.aload_n 0, 1) := by decide +kernel
theorem dX6_next_1 : decode cX6_next 1 = .ok (.getfield 32, 3) := by decide +kernel
theorem dX6_next_4 : decode cX6_next 4 = .ok (.ifCond .ge 42, 3) := by decide +kernel
theorem dX6_next_7 : decode cX6_next 7 = .ok (.aload_n 0, 1) := by decide +kernel
theorem dX6_next_8 : decode cX6_next 8 = .ok (.getfield 29, 3) := by decide +kernel
theorem dX6_next_11 : decode cX6_next 11 = .ok (.ifCond .lt 35, 3) := by decide +kernel
theorem dX6_next_14 : decode cX6_next 14 = .ok (.aload_n 0, 1) := by decide +kernel
theorem dX6_next_15 : decode cX6_next 15 = .ok (.getfield 29, 3) := by decide +kernel
theorem dX6_next_18 : decode cX6_next 18 = .ok (.aload_n 0, 1) := by decide +kernel
theorem dX6_next_19 : decode cX6_next 19 = .ok (.getfield 25, 3) := by decide +kernel
theorem dX6_next_22 : decode cX6_next 22 = .ok (.if_icmp .ge 24, 3) := by decide +kernel
theorem dX6_next_25 : decode cX6_next 25 = .ok (.aload_n 0, 1) := by decide +kernel
theorem dX6_next_26 : decode cX6_next 26 = .ok (.getfield 29, 3) := by decide +kernel
theorem dX6_next_29 : decode cX6_next 29 = .ok (.bipush 120, 2) := by decide +kernel
theorem dX6_next_31 : decode cX6_next 31 = .ok (.if_icmp .ge 15, 3) := by decide +kernel
theorem dX6_next_34 : decode cX6_next 34 = .ok (.aload_n 0, 1) := by decide +kernel
theorem dX6_next_35 : decode cX6_next 35 = .ok (.getfield 9, 3) := by decide +kernel
theorem dX6_next_38 : decode cX6_next 38 = .ok (.aload_n 0, 1) := by decide +kernel
theorem dX6_next_39 : decode cX6_next 39 = .ok (.getfield 29, 3) := by decide +kernel
theorem dX6_next_42 : decode cX6_next 42 = .ok (.iaload, 1) := by decide +kernel
theorem dX6_next_43 : decode cX6_next 43 = .ok (.goto 4, 3) := by decide +kernel
theorem dX6_next_46 : decode cX6_next 46 = .ok (.iconst (-1), 1) := by decide +kernel
theorem dX6_next_47 : decode cX6_next 47 = .ok (.ireturn, 1) := by decide +kernel
theorem dX6_spoil_0 : decode cX6_spoil 0 = .ok (.aload_n 0, 1) := by decide +kernel
theorem dX6_spoil_1 : decode cX6_spoil 1 = .ok (.getfield 32, 3) := by decide +kernel
theorem dX6_spoil_4 : decode cX6_spoil 4 = .ok (.ifCond .ge 11, 3) := by decide +kernel
theorem dX6_spoil_7 : decode cX6_spoil 7 = .ok (.aload_n 0, 1) := by decide +kernel
theorem dX6_spoil_8 : decode cX6_spoil 8 = .ok (.aload_n 0, 1) := by decide +kernel
theorem dX6_spoil_9 : decode cX6_spoil 9 = .ok (.getfield 29, 3) := by decide +kernel
theorem dX6_spoil_12 : decode cX6_spoil 12 = .ok (.putfield 32, 3) := by decide +kernel
theorem dX6_spoil_15 : decode cX6_spoil 15 = .ok (.return_, 1) := by decide +kernel
theorem dX6_emit_0 : decode cX6_emit 0 = .ok (.aload_n 0, 1) := by decide +kernel
theorem dX6_emit_1 : decode cX6_emit 1 = .ok (.getfield 35, 3) := by decide +kernel
theorem dX6_emit_4 : decode cX6_emit 4 = .ok (.ifCond .lt 15, 3) := by decide +kernel
theorem dX6_emit_7 : decode cX6_emit 7 = .ok (.aload_n 0, 1) := by decide +kernel
theorem dX6_emit_8 : decode cX6_emit 8 = .ok (.getfield 35, 3) := by decide +kernel
theorem dX6_emit_11 : decode cX6_emit 11 = .ok (.aload_n 0, 1) := by decide +kernel
theorem dX6_emit_12 : decode cX6_emit 12 = .ok (.getfield 13, 3) := by decide +kernel
theorem dX6_emit_15 : decode cX6_emit 15 = .ok (.arraylength, 1) := by decide +kernel
theorem dX6_emit_16 : decode cX6_emit 16 = .ok (.if_icmp .lt 4, 3) := by decide +kernel
theorem dX6_emit_19 : decode cX6_emit 19 = .ok (.return_, 1) := by decide +kernel
theorem dX6_emit_20 : decode cX6_emit 20 = .ok (.aload_n 0, 1) := by decide +kernel
theorem dX6_emit_21 : decode cX6_emit 21 = .ok (.getfield 13, 3) := by decide +kernel
theorem dX6_emit_24 : decode cX6_emit 24 = .ok (.aload_n 0, 1) := by decide +kernel
theorem dX6_emit_25 : decode cX6_emit 25 = .ok (.getfield 35, 3) := by decide +kernel
theorem dX6_emit_28 : decode cX6_emit 28 = .ok (.iload_n 1, 1) := by decide +kernel
theorem dX6_emit_29 : decode cX6_emit 29 = .ok (.iastore, 1) := by decide +kernel
theorem dX6_emit_30 : decode cX6_emit 30 = .ok (.aload_n 0, 1) := by decide +kernel
theorem dX6_emit_31 : decode cX6_emit 31 = .ok (.dup, 1) := by decide +kernel
theorem dX6_emit_32 : decode cX6_emit 32 = .ok (.getfield 35, 3) := by decide +kernel
theorem dX6_emit_35 : decode cX6_emit 35 = .ok (.iconst 1, 1) := by decide +kernel
theorem dX6_emit_36 : decode cX6_emit 36 = .ok (.iadd, 1) := by decide +kernel
theorem dX6_emit_37 : decode cX6_emit 37 = .ok (.putfield 35, 3) := by decide +kernel
theorem dX6_emit_40 : decode cX6_emit 40 = .ok (.return_, 1) := by decide +kernel
theorem dX6_isDigit_0 : decode cX6_isDigit 0 = .ok (.iload_n 0, 1) := by decide +kernel
theorem dX6_isDigit_1 : decode cX6_isDigit 1 = .ok (.bipush 48, 2) := by decide +kernel
theorem dX6_isDigit_3 : decode cX6_isDigit 3 = .ok (.if_icmp .lt 13, 3) := by decide +kernel
theorem dX6_isDigit_6 : decode cX6_isDigit 6 = .ok (.iload_n 0, 1) := by decide +kernel
theorem dX6_isDigit_7 : decode cX6_isDigit 7 = .ok (.bipush 57, 2) := by decide +kernel
theorem dX6_isDigit_9 : decode cX6_isDigit 9 = .ok (.if_icmp .gt 7, 3) := by decide +kernel
theorem dX6_isDigit_12 : decode cX6_isDigit 12 = .ok (.iconst 1, 1) := by decide +kernel
theorem dX6_isDigit_13 : decode cX6_isDigit 13 = .ok (.goto 4, 3) := by decide +kernel
theorem dX6_isDigit_16 : decode cX6_isDigit 16 = .ok (.iconst 0, 1) := by decide +kernel
theorem dX6_isDigit_17 : decode cX6_isDigit 17 = .ok (.ireturn, 1) := by decide +kernel
theorem dX6_nameOf_0 : decode cX6_nameOf 0 = .ok (.iload_n 0, 1) := by decide +kernel
theorem dX6_nameOf_1 : decode cX6_nameOf 1 = .ok (.lookupswitch 71 #[(98, 65), (109, 69), (112, 63), (115, 67), (116, 61), (119, 59)], 59) := by decide +kernel
theorem dX6_nameOf_60 : decode cX6_nameOf 60 = .ok (.iconst 0, 1) := by decide +kernel
theorem dX6_nameOf_61 : decode cX6_nameOf 61 = .ok (.ireturn, 1) := by decide +kernel
theorem dX6_nameOf_62 : decode cX6_nameOf 62 = .ok (.iconst 1, 1) := by decide +kernel
theorem dX6_nameOf_63 : decode cX6_nameOf 63 = .ok (.ireturn, 1) := by decide +kernel
theorem dX6_nameOf_64 : decode cX6_nameOf 64 = .ok (.iconst 2, 1) := by decide +kernel
theorem dX6_nameOf_65 : decode cX6_nameOf 65 = .ok (.ireturn, 1) := by decide +kernel
theorem dX6_nameOf_66 : decode cX6_nameOf 66 = .ok (.iconst 3, 1) := by decide +kernel
theorem dX6_nameOf_67 : decode cX6_nameOf 67 = .ok (.ireturn, 1) := by decide +kernel
theorem dX6_nameOf_68 : decode cX6_nameOf 68 = .ok (.iconst 4, 1) := by decide +kernel
theorem dX6_nameOf_69 : decode cX6_nameOf 69 = .ok (.ireturn, 1) := by decide +kernel
theorem dX6_nameOf_70 : decode cX6_nameOf 70 = .ok (.iconst 5, 1) := by decide +kernel
theorem dX6_nameOf_71 : decode cX6_nameOf 71 = .ok (.ireturn, 1) := by decide +kernel
theorem dX6_nameOf_72 : decode cX6_nameOf 72 = .ok (.iconst (-1), 1) := by decide +kernel
theorem dX6_nameOf_73 : decode cX6_nameOf 73 = .ok (.ireturn, 1) := by decide +kernel
theorem dX6_levelOf_0 : decode cX6_levelOf 0 = .ok (.iload_n 0, 1) := by decide +kernel
theorem dX6_levelOf_1 : decode cX6_levelOf 1 = .ok (.lookupswitch 101 #[(37, 99), (38, 93), (42, 99), (43, 97), (45, 97), (47, 99), (60, 95), (61, 95), (62, 95), (124, 91)], 91) := by decide +kernel
theorem dX6_levelOf_92 : decode cX6_levelOf 92 = .ok (.iconst 0, 1) := by decide +kernel
theorem dX6_levelOf_93 : decode cX6_levelOf 93 = .ok (.ireturn, 1) := by decide +kernel
theorem dX6_levelOf_94 : decode cX6_levelOf 94 = .ok (.iconst 1, 1) := by decide +kernel
theorem dX6_levelOf_95 : decode cX6_levelOf 95 = .ok (.ireturn, 1) := by decide +kernel
theorem dX6_levelOf_96 : decode cX6_levelOf 96 = .ok (.iconst 2, 1) := by decide +kernel
theorem dX6_levelOf_97 : decode cX6_levelOf 97 = .ok (.ireturn, 1) := by decide +kernel
theorem dX6_levelOf_98 : decode cX6_levelOf 98 = .ok (.iconst 3, 1) := by decide +kernel
theorem dX6_levelOf_99 : decode cX6_levelOf 99 = .ok (.ireturn, 1) := by decide +kernel
theorem dX6_levelOf_100 : decode cX6_levelOf 100 = .ok (.iconst 4, 1) := by decide +kernel
theorem dX6_levelOf_101 : decode cX6_levelOf 101 = .ok (.ireturn, 1) := by decide +kernel
theorem dX6_levelOf_102 : decode cX6_levelOf 102 = .ok (.iconst (-1), 1) := by decide +kernel
theorem dX6_levelOf_103 : decode cX6_levelOf 103 = .ok (.ireturn, 1) := by decide +kernel
theorem dX6_isTold_0 : decode cX6_isTold 0 = .ok (.aload_n 0, 1) := by decide +kernel
theorem dX6_isTold_1 : decode cX6_isTold 1 = .ok (.getfield 38, 3) := by decide +kernel
theorem dX6_isTold_4 : decode cX6_isTold 4 = .ok (.ifCond .le 7, 3) := by decide +kernel
theorem dX6_isTold_7 : decode cX6_isTold 7 = .ok (.iconst 1, 1) := by decide +kernel
theorem dX6_isTold_8 : decode cX6_isTold 8 = .ok (.goto 4, 3) := by decide +kernel
theorem dX6_isTold_11 : decode cX6_isTold 11 = .ok (.iconst 0, 1) := by decide +kernel
theorem dX6_isTold_12 : decode cX6_isTold 12 = .ok (.ireturn, 1) := by decide +kernel
theorem dX6_name_0 : decode cX6_name 0 = .ok (.aload_n 0, 1) := by decide +kernel
theorem dX6_name_1 : decode cX6_name 1 = .ok (.getfield 22, 3) := by decide +kernel
theorem dX6_name_4 : decode cX6_name 4 = .ok (.iconst 0, 1) := by decide +kernel
theorem dX6_name_5 : decode cX6_name 5 = .ok (.iload_n 1, 1) := by decide +kernel
theorem dX6_name_6 : decode cX6_name 6 = .ok (.iastore, 1) := by decide +kernel
theorem dX6_name_7 : decode cX6_name 7 = .ok (.aload_n 0, 1) := by decide +kernel
theorem dX6_name_8 : decode cX6_name 8 = .ok (.getfield 22, 3) := by decide +kernel
theorem dX6_name_11 : decode cX6_name 11 = .ok (.iconst 1, 1) := by decide +kernel
theorem dX6_name_12 : decode cX6_name 12 = .ok (.iload_n 2, 1) := by decide +kernel
theorem dX6_name_13 : decode cX6_name 13 = .ok (.iastore, 1) := by decide +kernel
theorem dX6_name_14 : decode cX6_name 14 = .ok (.aload_n 0, 1) := by decide +kernel
theorem dX6_name_15 : decode cX6_name 15 = .ok (.getfield 22, 3) := by decide +kernel
theorem dX6_name_18 : decode cX6_name 18 = .ok (.iconst 2, 1) := by decide +kernel
theorem dX6_name_19 : decode cX6_name 19 = .ok (.iload_n 3, 1) := by decide +kernel
theorem dX6_name_20 : decode cX6_name 20 = .ok (.iastore, 1) := by decide +kernel
theorem dX6_name_21 : decode cX6_name 21 = .ok (.aload_n 0, 1) := by decide +kernel
theorem dX6_name_22 : decode cX6_name 22 = .ok (.getfield 22, 3) := by decide +kernel
theorem dX6_name_25 : decode cX6_name 25 = .ok (.iconst 3, 1) := by decide +kernel
theorem dX6_name_26 : decode cX6_name 26 = .ok (.iload 4, 2) := by decide +kernel
theorem dX6_name_28 : decode cX6_name 28 = .ok (.iastore, 1) := by decide +kernel
theorem dX6_name_29 : decode cX6_name 29 = .ok (.aload_n 0, 1) := by decide +kernel
theorem dX6_name_30 : decode cX6_name 30 = .ok (.getfield 22, 3) := by decide +kernel
theorem dX6_name_33 : decode cX6_name 33 = .ok (.iconst 4, 1) := by decide +kernel
theorem dX6_name_34 : decode cX6_name 34 = .ok (.iload 5, 2) := by decide +kernel
theorem dX6_name_36 : decode cX6_name 36 = .ok (.iastore, 1) := by decide +kernel
theorem dX6_name_37 : decode cX6_name 37 = .ok (.aload_n 0, 1) := by decide +kernel
theorem dX6_name_38 : decode cX6_name 38 = .ok (.getfield 22, 3) := by decide +kernel
theorem dX6_name_41 : decode cX6_name 41 = .ok (.iconst 5, 1) := by decide +kernel
theorem dX6_name_42 : decode cX6_name 42 = .ok (.iload 6, 2) := by decide +kernel
theorem dX6_name_44 : decode cX6_name 44 = .ok (.iastore, 1) := by decide +kernel
theorem dX6_name_45 : decode cX6_name 45 = .ok (.return_, 1) := by decide +kernel
theorem dX6_work_0 : decode cX6_work 0 = .ok (.iconst 0, 1) := by decide +kernel
theorem dX6_work_1 : decode cX6_work 1 = .ok (.istore_n 1, 1) := by decide +kernel
theorem dX6_work_2 : decode cX6_work 2 = .ok (.iconst 0, 1) := by decide +kernel
theorem dX6_work_3 : decode cX6_work 3 = .ok (.istore_n 2, 1) := by decide +kernel
theorem dX6_work_4 : decode cX6_work 4 = .ok (.iconst 0, 1) := by decide +kernel
theorem dX6_work_5 : decode cX6_work 5 = .ok (.istore_n 3, 1) := by decide +kernel
theorem dX6_work_6 : decode cX6_work 6 = .ok (.iload_n 3, 1) := by decide +kernel
theorem dX6_work_7 : decode cX6_work 7 = .ok (.aload_n 0, 1) := by decide +kernel
theorem dX6_work_8 : decode cX6_work 8 = .ok (.getfield 38, 3) := by decide +kernel
theorem dX6_work_11 : decode cX6_work 11 = .ok (.if_icmp .ge 249, 3) := by decide +kernel
theorem dX6_work_14 : decode cX6_work 14 = .ok (.iload_n 1, 1) := by decide +kernel
theorem dX6_work_15 : decode cX6_work 15 = .ok (.aload_n 0, 1) := by decide +kernel
theorem dX6_work_16 : decode cX6_work 16 = .ok (.getfield 38, 3) := by decide +kernel
theorem dX6_work_19 : decode cX6_work 19 = .ok (.if_icmp .ge 241, 3) := by decide +kernel
theorem dX6_work_22 : decode cX6_work 22 = .ok (.iload_n 1, 1) := by decide +kernel
theorem dX6_work_23 : decode cX6_work 23 = .ok (.aload_n 0, 1) := by decide +kernel
theorem dX6_work_24 : decode cX6_work 24 = .ok (.getfield 16, 3) := by decide +kernel
theorem dX6_work_27 : decode cX6_work 27 = .ok (.arraylength, 1) := by decide +kernel
theorem dX6_work_28 : decode cX6_work 28 = .ok (.if_icmp .ge 232, 3) := by decide +kernel
theorem dX6_work_31 : decode cX6_work 31 = .ok (.aload_n 0, 1) := by decide +kernel
theorem dX6_work_32 : decode cX6_work 32 = .ok (.getfield 16, 3) := by decide +kernel
theorem dX6_work_35 : decode cX6_work 35 = .ok (.iload_n 1, 1) := by decide +kernel
theorem dX6_work_36 : decode cX6_work 36 = .ok (.iaload, 1) := by decide +kernel
theorem dX6_work_37 : decode cX6_work 37 = .ok (.istore 4, 2) := by decide +kernel
theorem dX6_work_39 : decode cX6_work 39 = .ok (.iinc 1 1, 3) := by decide +kernel
theorem dX6_work_42 : decode cX6_work 42 = .ok (.iload 4, 2) := by decide +kernel
theorem dX6_work_44 : decode cX6_work 44 = .ok (.sipush 11000, 3) := by decide +kernel
theorem dX6_work_47 : decode cX6_work 47 = .ok (.if_icmp .ge 49, 3) := by decide +kernel
theorem dX6_work_50 : decode cX6_work 50 = .ok (.iload_n 2, 1) := by decide +kernel
theorem dX6_work_51 : decode cX6_work 51 = .ok (.aload_n 0, 1) := by decide +kernel
theorem dX6_work_52 : decode cX6_work 52 = .ok (.getfield 19, 3) := by decide +kernel
theorem dX6_work_55 : decode cX6_work 55 = .ok (.arraylength, 1) := by decide +kernel
theorem dX6_work_56 : decode cX6_work 56 = .ok (.if_icmp .lt 5, 3) := by decide +kernel
theorem dX6_work_59 : decode cX6_work 59 = .ok (.iconst 0, 1) := by decide +kernel
theorem dX6_work_60 : decode cX6_work 60 = .ok (.ireturn, 1) := by decide +kernel
theorem dX6_work_61 : decode cX6_work 61 = .ok (.aload_n 0, 1) := by decide +kernel
theorem dX6_work_62 : decode cX6_work 62 = .ok (.getfield 19, 3) := by decide +kernel
theorem dX6_work_65 : decode cX6_work 65 = .ok (.iload_n 2, 1) := by decide +kernel
theorem dX6_work_66 : decode cX6_work 66 = .ok (.iload 4, 2) := by decide +kernel
theorem dX6_work_68 : decode cX6_work 68 = .ok (.sipush 10000, 3) := by decide +kernel
theorem dX6_work_71 : decode cX6_work 71 = .ok (.if_icmp .ge 8, 3) := by decide +kernel
theorem dX6_work_74 : decode cX6_work 74 = .ok (.iload 4, 2) := by decide +kernel
theorem dX6_work_76 : decode cX6_work 76 = .ok (.goto 13, 3) := by decide +kernel
theorem dX6_work_79 : decode cX6_work 79 = .ok (.aload_n 0, 1) := by decide +kernel
theorem dX6_work_80 : decode cX6_work 80 = .ok (.iload 4, 2) := by decide +kernel
theorem dX6_work_82 : decode cX6_work 82 = .ok (.sipush 10000, 3) := by decide +kernel
theorem dX6_work_85 : decode cX6_work 85 = .ok (.isub, 1) := by decide +kernel
theorem dX6_work_86 : decode cX6_work 86 = .ok (.invokevirtual 83, 3) := by decide +kernel
theorem dX6_work_89 : decode cX6_work 89 = .ok (.iastore, 1) := by decide +kernel
theorem dX6_work_90 : decode cX6_work 90 = .ok (.iinc 2 1, 3) := by decide +kernel
theorem dX6_work_93 : decode cX6_work 93 = .ok (.goto 161, 3) := by decide +kernel
theorem dX6_work_96 : decode cX6_work 96 = .ok (.iload_n 2, 1) := by decide +kernel
theorem dX6_work_97 : decode cX6_work 97 = .ok (.iconst 1, 1) := by decide +kernel
theorem dX6_work_98 : decode cX6_work 98 = .ok (.if_icmp .ge 5, 3) := by decide +kernel
theorem dX6_work_101 : decode cX6_work 101 = .ok (.iconst 0, 1) := by decide +kernel
theorem dX6_work_102 : decode cX6_work 102 = .ok (.ireturn, 1) := by decide +kernel
theorem dX6_work_103 : decode cX6_work 103 = .ok (.iload 4, 2) := by decide +kernel
theorem dX6_work_105 : decode cX6_work 105 = .ok (.sipush 12000, 3) := by decide +kernel
theorem dX6_work_108 : decode cX6_work 108 = .ok (.if_icmp .ne 12, 3) := by decide +kernel
theorem dX6_work_111 : decode cX6_work 111 = .ok (.aload_n 0, 1) := by decide +kernel
theorem dX6_work_112 : decode cX6_work 112 = .ok (.getfield 19, 3) := by decide +kernel
theorem dX6_work_115 : decode cX6_work 115 = .ok (.iload_n 2, 1) := by decide +kernel
theorem dX6_work_116 : decode cX6_work 116 = .ok (.iconst 1, 1) := by decide +kernel
theorem dX6_work_117 : decode cX6_work 117 = .ok (.isub, 1) := by decide +kernel
theorem dX6_work_118 : decode cX6_work 118 = .ok (.iaload, 1) := by decide +kernel
theorem dX6_work_119 : decode cX6_work 119 = .ok (.ireturn, 1) := by decide +kernel
theorem dX6_work_120 : decode cX6_work 120 = .ok (.iload 4, 2) := by decide +kernel
theorem dX6_work_122 : decode cX6_work 122 = .ok (.sipush 13000, 3) := by decide +kernel
theorem dX6_work_125 : decode cX6_work 125 = .ok (.if_icmp .lt 25, 3) := by decide +kernel
theorem dX6_work_128 : decode cX6_work 128 = .ok (.iinc 2 (-1), 3) := by decide +kernel
theorem dX6_work_131 : decode cX6_work 131 = .ok (.aload_n 0, 1) := by decide +kernel
theorem dX6_work_132 : decode cX6_work 132 = .ok (.getfield 19, 3) := by decide +kernel
theorem dX6_work_135 : decode cX6_work 135 = .ok (.iload_n 2, 1) := by decide +kernel
theorem dX6_work_136 : decode cX6_work 136 = .ok (.iaload, 1) := by decide +kernel
theorem dX6_work_137 : decode cX6_work 137 = .ok (.ifCond .ne 117, 3) := by decide +kernel
theorem dX6_work_140 : decode cX6_work 140 = .ok (.iload 4, 2) := by decide +kernel
theorem dX6_work_142 : decode cX6_work 142 = .ok (.sipush 13000, 3) := by decide +kernel
theorem dX6_work_145 : decode cX6_work 145 = .ok (.isub, 1) := by decide +kernel
theorem dX6_work_146 : decode cX6_work 146 = .ok (.istore_n 1, 1) := by decide +kernel
theorem dX6_work_147 : decode cX6_work 147 = .ok (.goto 107, 3) := by decide +kernel
theorem dX6_work_150 : decode cX6_work 150 = .ok (.iload 4, 2) := by decide +kernel
theorem dX6_work_152 : decode cX6_work 152 = .ok (.sipush 11126, 3) := by decide +kernel
theorem dX6_work_155 : decode cX6_work 155 = .ok (.if_icmp .ne 23, 3) := by decide +kernel
theorem dX6_work_158 : decode cX6_work 158 = .ok (.aload_n 0, 1) := by decide +kernel
theorem dX6_work_159 : decode cX6_work 159 = .ok (.getfield 19, 3) := by decide +kernel
theorem dX6_work_162 : decode cX6_work 162 = .ok (.iload_n 2, 1) := by decide +kernel
theorem dX6_work_163 : decode cX6_work 163 = .ok (.iconst 1, 1) := by decide +kernel
theorem dX6_work_164 : decode cX6_work 164 = .ok (.isub, 1) := by decide +kernel
theorem dX6_work_165 : decode cX6_work 165 = .ok (.aload_n 0, 1) := by decide +kernel
theorem dX6_work_166 : decode cX6_work 166 = .ok (.getfield 19, 3) := by decide +kernel
theorem dX6_work_169 : decode cX6_work 169 = .ok (.iload_n 2, 1) := by decide +kernel
theorem dX6_work_170 : decode cX6_work 170 = .ok (.iconst 1, 1) := by decide +kernel
theorem dX6_work_171 : decode cX6_work 171 = .ok (.isub, 1) := by decide +kernel
theorem dX6_work_172 : decode cX6_work 172 = .ok (.iaload, 1) := by decide +kernel
theorem dX6_work_173 : decode cX6_work 173 = .ok (.ineg, 1) := by decide +kernel
theorem dX6_work_174 : decode cX6_work 174 = .ok (.iastore, 1) := by decide +kernel
theorem dX6_work_175 : decode cX6_work 175 = .ok (.goto 79, 3) := by decide +kernel
theorem dX6_work_178 : decode cX6_work 178 = .ok (.iload 4, 2) := by decide +kernel
theorem dX6_work_180 : decode cX6_work 180 = .ok (.sipush 11033, 3) := by decide +kernel
theorem dX6_work_183 : decode cX6_work 183 = .ok (.if_icmp .ne 30, 3) := by decide +kernel
theorem dX6_work_186 : decode cX6_work 186 = .ok (.aload_n 0, 1) := by decide +kernel
theorem dX6_work_187 : decode cX6_work 187 = .ok (.getfield 19, 3) := by decide +kernel
theorem dX6_work_190 : decode cX6_work 190 = .ok (.iload_n 2, 1) := by decide +kernel
theorem dX6_work_191 : decode cX6_work 191 = .ok (.iconst 1, 1) := by decide +kernel
theorem dX6_work_192 : decode cX6_work 192 = .ok (.isub, 1) := by decide +kernel
theorem dX6_work_193 : decode cX6_work 193 = .ok (.aload_n 0, 1) := by decide +kernel
theorem dX6_work_194 : decode cX6_work 194 = .ok (.getfield 19, 3) := by decide +kernel
theorem dX6_work_197 : decode cX6_work 197 = .ok (.iload_n 2, 1) := by decide +kernel
theorem dX6_work_198 : decode cX6_work 198 = .ok (.iconst 1, 1) := by decide +kernel
theorem dX6_work_199 : decode cX6_work 199 = .ok (.isub, 1) := by decide +kernel
theorem dX6_work_200 : decode cX6_work 200 = .ok (.iaload, 1) := by decide +kernel
theorem dX6_work_201 : decode cX6_work 201 = .ok (.ifCond .ne 7, 3) := by decide +kernel
theorem dX6_work_204 : decode cX6_work 204 = .ok (.iconst 1, 1) := by decide +kernel
theorem dX6_work_205 : decode cX6_work 205 = .ok (.goto 4, 3) := by decide +kernel
theorem dX6_work_208 : decode cX6_work 208 = .ok (.iconst 0, 1) := by decide +kernel
theorem dX6_work_209 : decode cX6_work 209 = .ok (.iastore, 1) := by decide +kernel
theorem dX6_work_210 : decode cX6_work 210 = .ok (.goto 44, 3) := by decide +kernel
theorem dX6_work_213 : decode cX6_work 213 = .ok (.iload_n 2, 1) := by decide +kernel
theorem dX6_work_214 : decode cX6_work 214 = .ok (.iconst 2, 1) := by decide +kernel
theorem dX6_work_215 : decode cX6_work 215 = .ok (.if_icmp .ge 5, 3) := by decide +kernel
theorem dX6_work_218 : decode cX6_work 218 = .ok (.iconst 0, 1) := by decide +kernel
theorem dX6_work_219 : decode cX6_work 219 = .ok (.ireturn, 1) := by decide +kernel
theorem dX6_work_220 : decode cX6_work 220 = .ok (.iinc 2 (-1), 3) := by decide +kernel
theorem dX6_work_223 : decode cX6_work 223 = .ok (.aload_n 0, 1) := by decide +kernel
theorem dX6_work_224 : decode cX6_work 224 = .ok (.getfield 19, 3) := by decide +kernel
theorem dX6_work_227 : decode cX6_work 227 = .ok (.iload_n 2, 1) := by decide +kernel
theorem dX6_work_228 : decode cX6_work 228 = .ok (.iconst 1, 1) := by decide +kernel
theorem dX6_work_229 : decode cX6_work 229 = .ok (.isub, 1) := by decide +kernel
theorem dX6_work_230 : decode cX6_work 230 = .ok (.iload 4, 2) := by decide +kernel
theorem dX6_work_232 : decode cX6_work 232 = .ok (.sipush 11000, 3) := by decide +kernel
theorem dX6_work_235 : decode cX6_work 235 = .ok (.isub, 1) := by decide +kernel
theorem dX6_work_236 : decode cX6_work 236 = .ok (.aload_n 0, 1) := by decide +kernel
theorem dX6_work_237 : decode cX6_work 237 = .ok (.getfield 19, 3) := by decide +kernel
theorem dX6_work_240 : decode cX6_work 240 = .ok (.iload_n 2, 1) := by decide +kernel
theorem dX6_work_241 : decode cX6_work 241 = .ok (.iconst 1, 1) := by decide +kernel
theorem dX6_work_242 : decode cX6_work 242 = .ok (.isub, 1) := by decide +kernel
theorem dX6_work_243 : decode cX6_work 243 = .ok (.iaload, 1) := by decide +kernel
theorem dX6_work_244 : decode cX6_work 244 = .ok (.aload_n 0, 1) := by decide +kernel
theorem dX6_work_245 : decode cX6_work 245 = .ok (.getfield 19, 3) := by decide +kernel
theorem dX6_work_248 : decode cX6_work 248 = .ok (.iload_n 2, 1) := by decide +kernel
theorem dX6_work_249 : decode cX6_work 249 = .ok (.iaload, 1) := by decide +kernel
theorem dX6_work_250 : decode cX6_work 250 = .ok (.invokestatic 86, 3) := by decide +kernel
theorem dX6_work_253 : decode cX6_work 253 = .ok (.iastore, 1) := by decide +kernel
theorem dX6_work_254 : decode cX6_work 254 = .ok (.iinc 3 1, 3) := by decide +kernel
theorem dX6_work_257 : decode cX6_work 257 = .ok (.goto (-251), 3) := by decide +kernel
theorem dX6_work_260 : decode cX6_work 260 = .ok (.iconst 0, 1) := by decide +kernel
theorem dX6_work_261 : decode cX6_work 261 = .ok (.ireturn, 1) := by decide +kernel
theorem dX6_named_0 : decode cX6_named 0 = .ok (.iload_n 1, 1) := by decide +kernel
theorem dX6_named_1 : decode cX6_named 1 = .ok (.ifCond .lt 18, 3) := by decide +kernel
theorem dX6_named_4 : decode cX6_named 4 = .ok (.iload_n 1, 1) := by decide +kernel
theorem dX6_named_5 : decode cX6_named 5 = .ok (.bipush 6, 2) := by decide +kernel
theorem dX6_named_7 : decode cX6_named 7 = .ok (.if_icmp .ge 12, 3) := by decide +kernel
theorem dX6_named_10 : decode cX6_named 10 = .ok (.aload_n 0, 1) := by decide +kernel
theorem dX6_named_11 : decode cX6_named 11 = .ok (.getfield 22, 3) := by decide +kernel
theorem dX6_named_14 : decode cX6_named 14 = .ok (.iload_n 1, 1) := by decide +kernel
theorem dX6_named_15 : decode cX6_named 15 = .ok (.iaload, 1) := by decide +kernel
theorem dX6_named_16 : decode cX6_named 16 = .ok (.goto 4, 3) := by decide +kernel
theorem dX6_named_19 : decode cX6_named 19 = .ok (.iconst 0, 1) := by decide +kernel
theorem dX6_named_20 : decode cX6_named 20 = .ok (.ireturn, 1) := by decide +kernel
theorem dX6_joined_0 : decode cX6_joined 0 = .ok (.iload_n 0, 1) := by decide +kernel
theorem dX6_joined_1 : decode cX6_joined 1 = .ok (.lookupswitch 188 #[(37, 176), (38, 105), (42, 160), (43, 152), (45, 156), (47, 164), (60, 119), (61, 130), (62, 141), (124, 91)], 91) := by decide +kernel
theorem dX6_joined_92 : decode cX6_joined 92 = .ok (.iload_n 1, 1) := by decide +kernel
theorem dX6_joined_93 : decode cX6_joined 93 = .ok (.ifCond .ne 7, 3) := by decide +kernel
theorem dX6_joined_96 : decode cX6_joined 96 = .ok (.iload_n 2, 1) := by decide +kernel
theorem dX6_joined_97 : decode cX6_joined 97 = .ok (.ifCond .eq 7, 3) := by decide +kernel
theorem dX6_joined_100 : decode cX6_joined 100 = .ok (.iconst 1, 1) := by decide +kernel
theorem dX6_joined_101 : decode cX6_joined 101 = .ok (.goto 4, 3) := by decide +kernel
theorem dX6_joined_104 : decode cX6_joined 104 = .ok (.iconst 0, 1) := by decide +kernel
theorem dX6_joined_105 : decode cX6_joined 105 = .ok (.ireturn, 1) := by decide +kernel
theorem dX6_joined_106 : decode cX6_joined 106 = .ok (.iload_n 1, 1) := by decide +kernel
theorem dX6_joined_107 : decode cX6_joined 107 = .ok (.ifCond .eq 11, 3) := by decide +kernel
theorem dX6_joined_110 : decode cX6_joined 110 = .ok (.iload_n 2, 1) := by decide +kernel
theorem dX6_joined_111 : decode cX6_joined 111 = .ok (.ifCond .eq 7, 3) := by decide +kernel
theorem dX6_joined_114 : decode cX6_joined 114 = .ok (.iconst 1, 1) := by decide +kernel
theorem dX6_joined_115 : decode cX6_joined 115 = .ok (.goto 4, 3) := by decide +kernel
theorem dX6_joined_118 : decode cX6_joined 118 = .ok (.iconst 0, 1) := by decide +kernel
theorem dX6_joined_119 : decode cX6_joined 119 = .ok (.ireturn, 1) := by decide +kernel
theorem dX6_joined_120 : decode cX6_joined 120 = .ok (.iload_n 1, 1) := by decide +kernel
theorem dX6_joined_121 : decode cX6_joined 121 = .ok (.iload_n 2, 1) := by decide +kernel
theorem dX6_joined_122 : decode cX6_joined 122 = .ok (.if_icmp .ge 7, 3) := by decide +kernel
theorem dX6_joined_125 : decode cX6_joined 125 = .ok (.iconst 1, 1) := by decide +kernel
theorem dX6_joined_126 : decode cX6_joined 126 = .ok (.goto 4, 3) := by decide +kernel
theorem dX6_joined_129 : decode cX6_joined 129 = .ok (.iconst 0, 1) := by decide +kernel
theorem dX6_joined_130 : decode cX6_joined 130 = .ok (.ireturn, 1) := by decide +kernel
theorem dX6_joined_131 : decode cX6_joined 131 = .ok (.iload_n 1, 1) := by decide +kernel
theorem dX6_joined_132 : decode cX6_joined 132 = .ok (.iload_n 2, 1) := by decide +kernel
theorem dX6_joined_133 : decode cX6_joined 133 = .ok (.if_icmp .ne 7, 3) := by decide +kernel
theorem dX6_joined_136 : decode cX6_joined 136 = .ok (.iconst 1, 1) := by decide +kernel
theorem dX6_joined_137 : decode cX6_joined 137 = .ok (.goto 4, 3) := by decide +kernel
theorem dX6_joined_140 : decode cX6_joined 140 = .ok (.iconst 0, 1) := by decide +kernel
theorem dX6_joined_141 : decode cX6_joined 141 = .ok (.ireturn, 1) := by decide +kernel
theorem dX6_joined_142 : decode cX6_joined 142 = .ok (.iload_n 1, 1) := by decide +kernel
theorem dX6_joined_143 : decode cX6_joined 143 = .ok (.iload_n 2, 1) := by decide +kernel
theorem dX6_joined_144 : decode cX6_joined 144 = .ok (.if_icmp .le 7, 3) := by decide +kernel
theorem dX6_joined_147 : decode cX6_joined 147 = .ok (.iconst 1, 1) := by decide +kernel
theorem dX6_joined_148 : decode cX6_joined 148 = .ok (.goto 4, 3) := by decide +kernel
theorem dX6_joined_151 : decode cX6_joined 151 = .ok (.iconst 0, 1) := by decide +kernel
theorem dX6_joined_152 : decode cX6_joined 152 = .ok (.ireturn, 1) := by decide +kernel
theorem dX6_joined_153 : decode cX6_joined 153 = .ok (.iload_n 1, 1) := by decide +kernel
theorem dX6_joined_154 : decode cX6_joined 154 = .ok (.iload_n 2, 1) := by decide +kernel
theorem dX6_joined_155 : decode cX6_joined 155 = .ok (.iadd, 1) := by decide +kernel
theorem dX6_joined_156 : decode cX6_joined 156 = .ok (.ireturn, 1) := by decide +kernel
theorem dX6_joined_157 : decode cX6_joined 157 = .ok (.iload_n 1, 1) := by decide +kernel
theorem dX6_joined_158 : decode cX6_joined 158 = .ok (.iload_n 2, 1) := by decide +kernel
theorem dX6_joined_159 : decode cX6_joined 159 = .ok (.isub, 1) := by decide +kernel
theorem dX6_joined_160 : decode cX6_joined 160 = .ok (.ireturn, 1) := by decide +kernel
theorem dX6_joined_161 : decode cX6_joined 161 = .ok (.iload_n 1, 1) := by decide +kernel
theorem dX6_joined_162 : decode cX6_joined 162 = .ok (.iload_n 2, 1) := by decide +kernel
theorem dX6_joined_163 : decode cX6_joined 163 = .ok (.imul, 1) := by decide +kernel
theorem dX6_joined_164 : decode cX6_joined 164 = .ok (.ireturn, 1) := by decide +kernel
theorem dX6_joined_165 : decode cX6_joined 165 = .ok (.iload_n 2, 1) := by decide +kernel
theorem dX6_joined_166 : decode cX6_joined 166 = .ok (.ifCond .ne 7, 3) := by decide +kernel
theorem dX6_joined_169 : decode cX6_joined 169 = .ok (.iconst 0, 1) := by decide +kernel
theorem dX6_joined_170 : decode cX6_joined 170 = .ok (.goto 6, 3) := by decide +kernel
theorem dX6_joined_173 : decode cX6_joined 173 = .ok (.iload_n 1, 1) := by decide +kernel
theorem dX6_joined_174 : decode cX6_joined 174 = .ok (.iload_n 2, 1) := by decide +kernel
theorem dX6_joined_175 : decode cX6_joined 175 = .ok (.idiv, 1) := by decide +kernel
theorem dX6_joined_176 : decode cX6_joined 176 = .ok (.ireturn, 1) := by decide +kernel
theorem dX6_joined_177 : decode cX6_joined 177 = .ok (.iload_n 2, 1) := by decide +kernel
theorem dX6_joined_178 : decode cX6_joined 178 = .ok (.ifCond .ne 7, 3) := by decide +kernel
theorem dX6_joined_181 : decode cX6_joined 181 = .ok (.iconst 0, 1) := by decide +kernel
theorem dX6_joined_182 : decode cX6_joined 182 = .ok (.goto 6, 3) := by decide +kernel
theorem dX6_joined_185 : decode cX6_joined 185 = .ok (.iload_n 1, 1) := by decide +kernel
theorem dX6_joined_186 : decode cX6_joined 186 = .ok (.iload_n 2, 1) := by decide +kernel
theorem dX6_joined_187 : decode cX6_joined 187 = .ok (.irem, 1) := by decide +kernel
theorem dX6_joined_188 : decode cX6_joined 188 = .ok (.ireturn, 1) := by decide +kernel
theorem dX6_joined_189 : decode cX6_joined 189 = .ok (.iconst 0, 1) := by decide +kernel
theorem dX6_joined_190 : decode cX6_joined 190 = .ok (.ireturn, 1) := by decide +kernel
theorem dX7_init_0 : decode cX7_init 0 = .ok (.aload_n 0, 1) := by decide +kernel
theorem dX7_init_1 : decode cX7_init 1 = .ok (.invokespecial 3, 3) := by decide +kernel
theorem dX7_init_4 : decode cX7_init 4 = .ok (.aload_n 0, 1) := by decide +kernel
theorem dX7_init_5 : decode cX7_init 5 = .ok (.bipush 9, 2) := by decide +kernel
theorem dX7_init_7 : decode cX7_init 7 = .ok (.bipush 24, 2) := by decide +kernel
theorem dX7_init_9 : decode cX7_init 9 = .ok (.multianewarray 9 2, 4) := by decide +kernel
theorem dX7_init_13 : decode cX7_init 13 = .ok (.putfield 11, 3) := by decide +kernel
theorem dX7_init_16 : decode cX7_init 16 = .ok (.iconst 0, 1) := by decide +kernel
theorem dX7_init_17 : decode cX7_init 17 = .ok (.istore_n 1, 1) := by decide +kernel
theorem dX7_init_18 : decode cX7_init 18 = .ok (.iload_n 1, 1) := by decide +kernel
theorem dX7_init_19 : decode cX7_init 19 = .ok (.bipush 8, 2) := by decide +kernel
theorem dX7_init_21 : decode cX7_init 21 = .ok (.if_icmp .gt 23, 3) := by decide +kernel
theorem dX7_init_24 : decode cX7_init 24 = .ok (.aload_n 0, 1) := by decide +kernel
theorem dX7_init_25 : decode cX7_init 25 = .ok (.getfield 11, 3) := by decide +kernel
theorem dX7_init_28 : decode cX7_init 28 = .ok (.iload_n 1, 1) := by decide +kernel
theorem dX7_init_29 : decode cX7_init 29 = .ok (.aaload, 1) := by decide +kernel
theorem dX7_init_30 : decode cX7_init 30 = .ok (.getstatic 16, 3) := by decide +kernel
theorem dX7_init_33 : decode cX7_init 33 = .ok (.iload_n 1, 1) := by decide +kernel
theorem dX7_init_34 : decode cX7_init 34 = .ok (.iaload, 1) := by decide +kernel
theorem dX7_init_35 : decode cX7_init 35 = .ok (.invokestatic 20, 3) := by decide +kernel
theorem dX7_init_38 : decode cX7_init 38 = .ok (.iinc 1 1, 3) := by decide +kernel
theorem dX7_init_41 : decode cX7_init 41 = .ok (.goto (-23), 3) := by decide +kernel
theorem dX7_init_44 : decode cX7_init 44 = .ok (.aload_n 0, 1) := by decide +kernel
theorem dX7_init_45 : decode cX7_init 45 = .ok (.iconst 0, 1) := by decide +kernel
theorem dX7_init_46 : decode cX7_init 46 = .ok (.putfield 26, 3) := by decide +kernel
theorem dX7_init_49 : decode cX7_init 49 = .ok (.return_, 1) := by decide +kernel
theorem dX7_has_0 : decode cX7_has 0 = .ok (.iload_n 2, 1) := by decide +kernel
theorem dX7_has_1 : decode cX7_has 1 = .ok (.ifCond .lt 13, 3) := by decide +kernel
theorem dX7_has_4 : decode cX7_has 4 = .ok (.iload_n 2, 1) := by decide +kernel
theorem dX7_has_5 : decode cX7_has 5 = .ok (.bipush 8, 2) := by decide +kernel
theorem dX7_has_7 : decode cX7_has 7 = .ok (.if_icmp .gt 7, 3) := by decide +kernel
theorem dX7_has_10 : decode cX7_has 10 = .ok (.iload_n 1, 1) := by decide +kernel
theorem dX7_has_11 : decode cX7_has 11 = .ok (.ifCond .ge 5, 3) := by decide +kernel
theorem dX7_has_14 : decode cX7_has 14 = .ok (.iconst 0, 1) := by decide +kernel
theorem dX7_has_15 : decode cX7_has 15 = .ok (.ireturn, 1) := by decide +kernel
theorem dX7_has_16 : decode cX7_has 16 = .ok (.iload_n 2, 1) := by decide +kernel
theorem dX7_has_17 : decode cX7_has 17 = .ok (.iconst 3, 1) := by decide +kernel
theorem dX7_has_18 : decode cX7_has 18 = .ok (.if_icmp .gt 15, 3) := by decide +kernel
theorem dX7_has_21 : decode cX7_has 21 = .ok (.iload_n 1, 1) := by decide +kernel
theorem dX7_has_22 : decode cX7_has 22 = .ok (.bipush 24, 2) := by decide +kernel
theorem dX7_has_24 : decode cX7_has 24 = .ok (.if_icmp .ge 7, 3) := by decide +kernel
theorem dX7_has_27 : decode cX7_has 27 = .ok (.iconst 1, 1) := by decide +kernel
theorem dX7_has_28 : decode cX7_has 28 = .ok (.goto 4, 3) := by decide +kernel
theorem dX7_has_31 : decode cX7_has 31 = .ok (.iconst 0, 1) := by decide +kernel
theorem dX7_has_32 : decode cX7_has 32 = .ok (.ireturn, 1) := by decide +kernel
theorem dX7_has_33 : decode cX7_has 33 = .ok (.iload_n 2, 1) := by decide +kernel
theorem dX7_has_34 : decode cX7_has 34 = .ok (.bipush 7, 2) := by decide +kernel
theorem dX7_has_36 : decode cX7_has 36 = .ok (.if_icmp .gt 19, 3) := by decide +kernel
theorem dX7_has_39 : decode cX7_has 39 = .ok (.iload_n 1, 1) := by decide +kernel
theorem dX7_has_40 : decode cX7_has 40 = .ok (.aload_n 0, 1) := by decide +kernel
theorem dX7_has_41 : decode cX7_has 41 = .ok (.getfield 26, 3) := by decide +kernel
theorem dX7_has_44 : decode cX7_has 44 = .ok (.if_icmp .ge 7, 3) := by decide +kernel
theorem dX7_has_47 : decode cX7_has 47 = .ok (.iconst 1, 1) := by decide +kernel
theorem dX7_has_48 : decode cX7_has 48 = .ok (.goto 16, 3) := by decide +kernel
theorem dX7_has_51 : decode cX7_has 51 = .ok (.iconst 0, 1) := by decide +kernel
theorem dX7_has_52 : decode cX7_has 52 = .ok (.goto 12, 3) := by decide +kernel
theorem dX7_has_55 : decode cX7_has 55 = .ok (.iload_n 1, 1) := by decide +kernel
theorem dX7_has_56 : decode cX7_has 56 = .ok (.ifCond .ne 7, 3) := by decide +kernel
theorem dX7_has_59 : decode cX7_has 59 = .ok (.iconst 1, 1) := by decide +kernel
theorem dX7_has_60 : decode cX7_has 60 = .ok (.goto 4, 3) := by decide +kernel
theorem dX7_has_63 : decode cX7_has 63 = .ok (.iconst 0, 1) := by decide +kernel
theorem dX7_has_64 : decode cX7_has 64 = .ok (.ireturn, 1) := by decide +kernel
theorem dX7_allows_0 : decode cX7_allows 0 = .ok (.iload_n 1, 1) := by decide +kernel
theorem dX7_allows_1 : decode cX7_allows 1 = .ok (.ifCond .lt 31, 3) := by decide +kernel
theorem dX7_allows_4 : decode cX7_allows 4 = .ok (.iload_n 1, 1) := by decide +kernel
theorem dX7_allows_5 : decode cX7_allows 5 = .ok (.bipush 8, 2) := by decide +kernel
theorem dX7_allows_7 : decode cX7_allows 7 = .ok (.if_icmp .gt 25, 3) := by decide +kernel
theorem dX7_allows_10 : decode cX7_allows 10 = .ok (.iload_n 2, 1) := by decide +kernel
theorem dX7_allows_11 : decode cX7_allows 11 = .ok (.getstatic 30, 3) := by decide +kernel
theorem dX7_allows_14 : decode cX7_allows 14 = .ok (.iload_n 1, 1) := by decide +kernel
theorem dX7_allows_15 : decode cX7_allows 15 = .ok (.iaload, 1) := by decide +kernel
theorem dX7_allows_16 : decode cX7_allows 16 = .ok (.if_icmp .lt 16, 3) := by decide +kernel
theorem dX7_allows_19 : decode cX7_allows 19 = .ok (.iload_n 2, 1) := by decide +kernel
theorem dX7_allows_20 : decode cX7_allows 20 = .ok (.getstatic 33, 3) := by decide +kernel
theorem dX7_allows_23 : decode cX7_allows 23 = .ok (.iload_n 1, 1) := by decide +kernel
theorem dX7_allows_24 : decode cX7_allows 24 = .ok (.iaload, 1) := by decide +kernel
theorem dX7_allows_25 : decode cX7_allows 25 = .ok (.if_icmp .gt 7, 3) := by decide +kernel
theorem dX7_allows_28 : decode cX7_allows 28 = .ok (.iconst 1, 1) := by decide +kernel
theorem dX7_allows_29 : decode cX7_allows 29 = .ok (.goto 4, 3) := by decide +kernel
theorem dX7_allows_32 : decode cX7_allows 32 = .ok (.iconst 0, 1) := by decide +kernel
theorem dX7_allows_33 : decode cX7_allows 33 = .ok (.ireturn, 1) := by decide +kernel
theorem dX7_get_0 : decode cX7_get 0 = .ok (.iload_n 2, 1) := by decide +kernel
theorem dX7_get_1 : decode cX7_get 1 = .ok (.ifCond .lt 23, 3) := by decide +kernel
theorem dX7_get_4 : decode cX7_get 4 = .ok (.iload_n 2, 1) := by decide +kernel
theorem dX7_get_5 : decode cX7_get 5 = .ok (.bipush 8, 2) := by decide +kernel
theorem dX7_get_7 : decode cX7_get 7 = .ok (.if_icmp .gt 17, 3) := by decide +kernel
theorem dX7_get_10 : decode cX7_get 10 = .ok (.iload_n 1, 1) := by decide +kernel
theorem dX7_get_11 : decode cX7_get 11 = .ok (.ifCond .lt 13, 3) := by decide +kernel
theorem dX7_get_14 : decode cX7_get 14 = .ok (.iload_n 1, 1) := by decide +kernel
theorem dX7_get_15 : decode cX7_get 15 = .ok (.bipush 24, 2) := by decide +kernel
theorem dX7_get_17 : decode cX7_get 17 = .ok (.if_icmp .ge 7, 3) := by decide +kernel
theorem dX7_get_20 : decode cX7_get 20 = .ok (.iconst 1, 1) := by decide +kernel
theorem dX7_get_21 : decode cX7_get 21 = .ok (.goto 4, 3) := by decide +kernel
theorem dX7_get_24 : decode cX7_get 24 = .ok (.iconst 0, 1) := by decide +kernel
theorem dX7_get_25 : decode cX7_get 25 = .ok (.istore_n 3, 1) := by decide +kernel
theorem dX7_get_26 : decode cX7_get 26 = .ok (.iload_n 3, 1) := by decide +kernel
theorem dX7_get_27 : decode cX7_get 27 = .ok (.ifCond .eq 14, 3) := by decide +kernel
theorem dX7_get_30 : decode cX7_get 30 = .ok (.aload_n 0, 1) := by decide +kernel
theorem dX7_get_31 : decode cX7_get 31 = .ok (.getfield 11, 3) := by decide +kernel
theorem dX7_get_34 : decode cX7_get 34 = .ok (.iload_n 2, 1) := by decide +kernel
theorem dX7_get_35 : decode cX7_get 35 = .ok (.aaload, 1) := by decide +kernel
theorem dX7_get_36 : decode cX7_get 36 = .ok (.iload_n 1, 1) := by decide +kernel
theorem dX7_get_37 : decode cX7_get 37 = .ok (.iaload, 1) := by decide +kernel
theorem dX7_get_38 : decode cX7_get 38 = .ok (.goto 4, 3) := by decide +kernel
theorem dX7_get_41 : decode cX7_get 41 = .ok (.iconst 0, 1) := by decide +kernel
theorem dX7_get_42 : decode cX7_get 42 = .ok (.ireturn, 1) := by decide +kernel
theorem dX7_set_0 : decode cX7_set 0 = .ok (.aload_n 0, 1) := by decide +kernel
theorem dX7_set_1 : decode cX7_set 1 = .ok (.iload_n 1, 1) := by decide +kernel
theorem dX7_set_2 : decode cX7_set 2 = .ok (.iload_n 2, 1) := by decide +kernel
theorem dX7_set_3 : decode cX7_set 3 = .ok (.invokevirtual 36, 3) := by decide +kernel
theorem dX7_set_6 : decode cX7_set 6 = .ok (.ifCond .eq 12, 3) := by decide +kernel
theorem dX7_set_9 : decode cX7_set 9 = .ok (.aload_n 0, 1) := by decide +kernel
theorem dX7_set_10 : decode cX7_set 10 = .ok (.getfield 11, 3) := by decide +kernel
theorem dX7_set_13 : decode cX7_set 13 = .ok (.iload_n 2, 1) := by decide +kernel
theorem dX7_set_14 : decode cX7_set 14 = .ok (.aaload, 1) := by decide +kernel
theorem dX7_set_15 : decode cX7_set 15 = .ok (.iload_n 1, 1) := by decide +kernel
theorem dX7_set_16 : decode cX7_set 16 = .ok (.iload_n 3, 1) := by decide +kernel
theorem dX7_set_17 : decode cX7_set 17 = .ok (.iastore, 1) := by decide +kernel
theorem dX7_set_18 : decode cX7_set 18 = .ok (.return_, 1) := by decide +kernel
theorem dX7_add_0 : decode cX7_add 0 = .ok (.aload_n 0, 1) := by decide +kernel
theorem dX7_add_1 : decode cX7_add 1 = .ok (.getfield 26, 3) := by decide +kernel
theorem dX7_add_4 : decode cX7_add 4 = .ok (.bipush 7, 2) := by decide +kernel
theorem dX7_add_6 : decode cX7_add 6 = .ok (.if_icmp .lt 6, 3) := by decide +kernel
theorem dX7_add_9 : decode cX7_add 9 = .ok (.bipush (-3), 2) := by decide +kernel
theorem dX7_add_11 : decode cX7_add 11 = .ok (.ireturn, 1) := by decide +kernel
theorem dX7_add_12 : decode cX7_add 12 = .ok (.aload_n 0, 1) := by decide +kernel
theorem dX7_add_13 : decode cX7_add 13 = .ok (.getfield 26, 3) := by decide +kernel
theorem dX7_add_16 : decode cX7_add 16 = .ok (.istore 4, 2) := by decide +kernel
theorem dX7_add_18 : decode cX7_add 18 = .ok (.aload_n 0, 1) := by decide +kernel
theorem dX7_add_19 : decode cX7_add 19 = .ok (.dup, 1) := by decide +kernel
theorem dX7_add_20 : decode cX7_add 20 = .ok (.getfield 26, 3) := by decide +kernel
theorem dX7_add_23 : decode cX7_add 23 = .ok (.iconst 1, 1) := by decide +kernel
theorem dX7_add_24 : decode cX7_add 24 = .ok (.iadd, 1) := by decide +kernel
theorem dX7_add_25 : decode cX7_add 25 = .ok (.putfield 26, 3) := by decide +kernel
theorem dX7_add_28 : decode cX7_add 28 = .ok (.aload_n 0, 1) := by decide +kernel
theorem dX7_add_29 : decode cX7_add 29 = .ok (.iload 4, 2) := by decide +kernel
theorem dX7_add_31 : decode cX7_add 31 = .ok (.iconst 4, 1) := by decide +kernel
theorem dX7_add_32 : decode cX7_add 32 = .ok (.iload_n 1, 1) := by decide +kernel
theorem dX7_add_33 : decode cX7_add 33 = .ok (.invokevirtual 40, 3) := by decide +kernel
theorem dX7_add_36 : decode cX7_add 36 = .ok (.aload_n 0, 1) := by decide +kernel
theorem dX7_add_37 : decode cX7_add 37 = .ok (.iload 4, 2) := by decide +kernel
theorem dX7_add_39 : decode cX7_add 39 = .ok (.bipush 6, 2) := by decide +kernel
theorem dX7_add_41 : decode cX7_add 41 = .ok (.iload_n 2, 1) := by decide +kernel
theorem dX7_add_42 : decode cX7_add 42 = .ok (.invokevirtual 40, 3) := by decide +kernel
theorem dX7_add_45 : decode cX7_add 45 = .ok (.aload_n 0, 1) := by decide +kernel
theorem dX7_add_46 : decode cX7_add 46 = .ok (.iload 4, 2) := by decide +kernel
theorem dX7_add_48 : decode cX7_add 48 = .ok (.bipush 7, 2) := by decide +kernel
theorem dX7_add_50 : decode cX7_add 50 = .ok (.iload_n 3, 1) := by decide +kernel
theorem dX7_add_51 : decode cX7_add 51 = .ok (.invokevirtual 40, 3) := by decide +kernel
theorem dX7_add_54 : decode cX7_add 54 = .ok (.iload 4, 2) := by decide +kernel
theorem dX7_add_56 : decode cX7_add 56 = .ok (.ireturn, 1) := by decide +kernel
theorem dX8_init_0 : decode cX8_init 0 = .ok (.aload_n 0, 1) := by decide +kernel
theorem dX8_init_1 : decode cX8_init 1 = .ok (.invokespecial 3, 3) := by decide +kernel
theorem dX8_init_4 : decode cX8_init 4 = .ok (.aload_n 0, 1) := by decide +kernel
theorem dX8_init_5 : decode cX8_init 5 = .ok (.aload_n 1, 1) := by decide +kernel
theorem dX8_init_6 : decode cX8_init 6 = .ok (.putfield 9, 3) := by decide +kernel
theorem dX8_init_9 : decode cX8_init 9 = .ok (.aload_n 0, 1) := by decide +kernel
theorem dX8_init_10 : decode cX8_init 10 = .ok (.aload_n 2, 1) := by decide +kernel
theorem dX8_init_11 : decode cX8_init 11 = .ok (.putfield 15, 3) := by decide +kernel
theorem dX8_init_14 : decode cX8_init 14 = .ok (.aload_n 0, 1) := by decide +kernel
theorem dX8_init_15 : decode cX8_init 15 = .ok (.new 19, 3) := by decide +kernel
theorem dX8_init_18 : decode cX8_init 18 = .ok (.dup, 1) := by decide +kernel
theorem dX8_init_19 : decode cX8_init 19 = .ok (.invokespecial 21, 3) := by decide +kernel
theorem dX8_init_22 : decode cX8_init 22 = .ok (.putfield 22, 3) := by decide +kernel
theorem dX8_init_25 : decode cX8_init 25 = .ok (.aload_n 0, 1) := by decide +kernel
theorem dX8_init_26 : decode cX8_init 26 = .ok (.bipush 7, 2) := by decide +kernel
theorem dX8_init_28 : decode cX8_init 28 = .ok (.bipush 24, 2) := by decide +kernel
theorem dX8_init_30 : decode cX8_init 30 = .ok (.multianewarray 26 2, 4) := by decide +kernel
theorem dX8_init_34 : decode cX8_init 34 = .ok (.putfield 28, 3) := by decide +kernel
theorem dX8_init_37 : decode cX8_init 37 = .ok (.aload_n 0, 1) := by decide +kernel
theorem dX8_init_38 : decode cX8_init 38 = .ok (.bipush 7, 2) := by decide +kernel
theorem dX8_init_40 : decode cX8_init 40 = .ok (.newarray .int, 2) := by decide +kernel
theorem dX8_init_42 : decode cX8_init 42 = .ok (.putfield 31, 3) := by decide +kernel
theorem dX8_init_45 : decode cX8_init 45 = .ok (.aload_n 0, 1) := by decide +kernel
theorem dX8_init_46 : decode cX8_init 46 = .ok (.bipush 7, 2) := by decide +kernel
theorem dX8_init_48 : decode cX8_init 48 = .ok (.newarray .int, 2) := by decide +kernel
theorem dX8_init_50 : decode cX8_init 50 = .ok (.putfield 35, 3) := by decide +kernel
theorem dX8_init_53 : decode cX8_init 53 = .ok (.aload_n 0, 1) := by decide +kernel
theorem dX8_init_54 : decode cX8_init 54 = .ok (.bipush (-2), 2) := by decide +kernel
theorem dX8_init_56 : decode cX8_init 56 = .ok (.putfield 38, 3) := by decide +kernel
theorem dX8_init_59 : decode cX8_init 59 = .ok (.return_, 1) := by decide +kernel
theorem dX8_found_0 : decode cX8_found 0 = .ok (.iload_n 1, 1) := by decide +kernel
theorem dX8_found_1 : decode cX8_found 1 = .ok (.ifCond .lt 18, 3) := by decide +kernel
theorem dX8_found_4 : decode cX8_found 4 = .ok (.iload_n 1, 1) := by decide +kernel
theorem dX8_found_5 : decode cX8_found 5 = .ok (.bipush 7, 2) := by decide +kernel
theorem dX8_found_7 : decode cX8_found 7 = .ok (.if_icmp .ge 12, 3) := by decide +kernel
theorem dX8_found_10 : decode cX8_found 10 = .ok (.aload_n 0, 1) := by decide +kernel
theorem dX8_found_11 : decode cX8_found 11 = .ok (.getfield 35, 3) := by decide +kernel
theorem dX8_found_14 : decode cX8_found 14 = .ok (.iload_n 1, 1) := by decide +kernel
theorem dX8_found_15 : decode cX8_found 15 = .ok (.iaload, 1) := by decide +kernel
theorem dX8_found_16 : decode cX8_found 16 = .ok (.goto 5, 3) := by decide +kernel
theorem dX8_found_19 : decode cX8_found 19 = .ok (.bipush (-2), 2) := by decide +kernel
theorem dX8_found_21 : decode cX8_found 21 = .ok (.ireturn, 1) := by decide +kernel
theorem dX8_mostOver_0 : decode cX8_mostOver 0 = .ok (.aload_n 0, 1) := by decide +kernel
theorem dX8_mostOver_1 : decode cX8_mostOver 1 = .ok (.aload_n 1, 1) := by decide +kernel
theorem dX8_mostOver_2 : decode cX8_mostOver 2 = .ok (.iconst (-1), 1) := by decide +kernel
theorem dX8_mostOver_3 : decode cX8_mostOver 3 = .ok (.invokevirtual 42, 3) := by decide +kernel
theorem dX8_mostOver_6 : decode cX8_mostOver 6 = .ok (.aload_n 0, 1) := by decide +kernel
theorem dX8_mostOver_7 : decode cX8_mostOver 7 = .ok (.iload_n 2, 1) := by decide +kernel
theorem dX8_mostOver_8 : decode cX8_mostOver 8 = .ok (.iconst 0, 1) := by decide +kernel
theorem dX8_mostOver_9 : decode cX8_mostOver 9 = .ok (.iconst 0, 1) := by decide +kernel
theorem dX8_mostOver_10 : decode cX8_mostOver 10 = .ok (.iconst 0, 1) := by decide +kernel
theorem dX8_mostOver_11 : decode cX8_mostOver 11 = .ok (.invokevirtual 46, 3) := by decide +kernel
theorem dX8_mostOver_14 : decode cX8_mostOver 14 = .ok (.aload_n 0, 1) := by decide +kernel
theorem dX8_mostOver_15 : decode cX8_mostOver 15 = .ok (.getfield 38, 3) := by decide +kernel
theorem dX8_mostOver_18 : decode cX8_mostOver 18 = .ok (.ireturn, 1) := by decide +kernel
theorem dX8_soonestMinute_0 : decode cX8_soonestMinute 0 = .ok (.aload_n 0, 1) := by decide +kernel
theorem dX8_soonestMinute_1 : decode cX8_soonestMinute 1 = .ok (.aload_n 1, 1) := by decide +kernel
theorem dX8_soonestMinute_2 : decode cX8_soonestMinute 2 = .ok (.ldc 50, 2) := by decide +kernel
theorem dX8_soonestMinute_4 : decode cX8_soonestMinute 4 = .ok (.invokevirtual 42, 3) := by decide +kernel
theorem dX8_soonestMinute_7 : decode cX8_soonestMinute 7 = .ok (.aload_n 0, 1) := by decide +kernel
theorem dX8_soonestMinute_8 : decode cX8_soonestMinute 8 = .ok (.iload_n 2, 1) := by decide +kernel
theorem dX8_soonestMinute_9 : decode cX8_soonestMinute 9 = .ok (.iconst 0, 1) := by decide +kernel
theorem dX8_soonestMinute_10 : decode cX8_soonestMinute 10 = .ok (.iconst 0, 1) := by decide +kernel
theorem dX8_soonestMinute_11 : decode cX8_soonestMinute 11 = .ok (.invokevirtual 51, 3) := by decide +kernel
theorem dX8_soonestMinute_14 : decode cX8_soonestMinute 14 = .ok (.aload_n 0, 1) := by decide +kernel
theorem dX8_soonestMinute_15 : decode cX8_soonestMinute 15 = .ok (.getfield 38, 3) := by decide +kernel
theorem dX8_soonestMinute_18 : decode cX8_soonestMinute 18 = .ok (.ldc 50, 2) := by decide +kernel
theorem dX8_soonestMinute_20 : decode cX8_soonestMinute 20 = .ok (.if_icmp .ne 8, 3) := by decide +kernel
theorem dX8_soonestMinute_23 : decode cX8_soonestMinute 23 = .ok (.bipush (-2), 2) := by decide +kernel
theorem dX8_soonestMinute_25 : decode cX8_soonestMinute 25 = .ok (.goto 7, 3) := by decide +kernel
theorem dX8_soonestMinute_28 : decode cX8_soonestMinute 28 = .ok (.aload_n 0, 1) := by decide +kernel
theorem dX8_soonestMinute_29 : decode cX8_soonestMinute 29 = .ok (.getfield 38, 3) := by decide +kernel
theorem dX8_soonestMinute_32 : decode cX8_soonestMinute 32 = .ok (.ireturn, 1) := by decide +kernel
theorem dX8_mostParted_0 : decode cX8_mostParted 0 = .ok (.aload_n 0, 1) := by decide +kernel
theorem dX8_mostParted_1 : decode cX8_mostParted 1 = .ok (.aload_n 1, 1) := by decide +kernel
theorem dX8_mostParted_2 : decode cX8_mostParted 2 = .ok (.iconst (-1), 1) := by decide +kernel
theorem dX8_mostParted_3 : decode cX8_mostParted 3 = .ok (.invokevirtual 42, 3) := by decide +kernel
theorem dX8_mostParted_6 : decode cX8_mostParted 6 = .ok (.aload_n 0, 1) := by decide +kernel
theorem dX8_mostParted_7 : decode cX8_mostParted 7 = .ok (.iconst 0, 1) := by decide +kernel
theorem dX8_mostParted_8 : decode cX8_mostParted 8 = .ok (.iconst 0, 1) := by decide +kernel
theorem dX8_mostParted_9 : decode cX8_mostParted 9 = .ok (.invokevirtual 55, 3) := by decide +kernel
theorem dX8_mostParted_12 : decode cX8_mostParted 12 = .ok (.aload_n 0, 1) := by decide +kernel
theorem dX8_mostParted_13 : decode cX8_mostParted 13 = .ok (.getfield 38, 3) := by decide +kernel
theorem dX8_mostParted_16 : decode cX8_mostParted 16 = .ok (.ireturn, 1) := by decide +kernel
theorem dX8_begin_0 : decode cX8_begin 0 = .ok (.aload_n 0, 1) := by decide +kernel
theorem dX8_begin_1 : decode cX8_begin 1 = .ok (.getfield 15, 3) := by decide +kernel
theorem dX8_begin_4 : decode cX8_begin 4 = .ok (.aload_n 0, 1) := by decide +kernel
theorem dX8_begin_5 : decode cX8_begin 5 = .ok (.getfield 22, 3) := by decide +kernel
theorem dX8_begin_8 : decode cX8_begin 8 = .ok (.aload_n 1, 1) := by decide +kernel
theorem dX8_begin_9 : decode cX8_begin 9 = .ok (.invokevirtual 59, 3) := by decide +kernel
theorem dX8_begin_12 : decode cX8_begin 12 = .ok (.aload_n 0, 1) := by decide +kernel
theorem dX8_begin_13 : decode cX8_begin 13 = .ok (.iload_n 2, 1) := by decide +kernel
theorem dX8_begin_14 : decode cX8_begin 14 = .ok (.putfield 38, 3) := by decide +kernel
theorem dX8_begin_17 : decode cX8_begin 17 = .ok (.return_, 1) := by decide +kernel
theorem dX8_keepAs_0 : decode cX8_keepAs 0 = .ok (.aload_n 0, 1) := by decide +kernel
theorem dX8_keepAs_1 : decode cX8_keepAs 1 = .ok (.iload_n 1, 1) := by decide +kernel
theorem dX8_keepAs_2 : decode cX8_keepAs 2 = .ok (.putfield 38, 3) := by decide +kernel
theorem dX8_keepAs_5 : decode cX8_keepAs 5 = .ok (.aload_n 0, 1) := by decide +kernel
theorem dX8_keepAs_6 : decode cX8_keepAs 6 = .ok (.getfield 31, 3) := by decide +kernel
theorem dX8_keepAs_9 : decode cX8_keepAs 9 = .ok (.iconst 0, 1) := by decide +kernel
theorem dX8_keepAs_10 : decode cX8_keepAs 10 = .ok (.aload_n 0, 1) := by decide +kernel
theorem dX8_keepAs_11 : decode cX8_keepAs 11 = .ok (.getfield 35, 3) := by decide +kernel
theorem dX8_keepAs_14 : decode cX8_keepAs 14 = .ok (.iconst 0, 1) := by decide +kernel
theorem dX8_keepAs_15 : decode cX8_keepAs 15 = .ok (.bipush 7, 2) := by decide +kernel
theorem dX8_keepAs_17 : decode cX8_keepAs 17 = .ok (.invokestatic 65, 3) := by decide +kernel
theorem dX8_keepAs_20 : decode cX8_keepAs 20 = .ok (.return_, 1) := by decide +kernel
theorem dX8_save_0 : decode cX8_save 0 = .ok (.aload_n 0, 1) := by decide +kernel
theorem dX8_save_1 : decode cX8_save 1 = .ok (.getfield 22, 3) := by decide +kernel
theorem dX8_save_4 : decode cX8_save 4 = .ok (.getfield 71, 3) := by decide +kernel
theorem dX8_save_7 : decode cX8_save 7 = .ok (.iconst 0, 1) := by decide +kernel
theorem dX8_save_8 : decode cX8_save 8 = .ok (.aload_n 0, 1) := by decide +kernel
theorem dX8_save_9 : decode cX8_save 9 = .ok (.getfield 28, 3) := by decide +kernel
theorem dX8_save_12 : decode cX8_save 12 = .ok (.iload_n 1, 1) := by decide +kernel
theorem dX8_save_13 : decode cX8_save 13 = .ok (.aaload, 1) := by decide +kernel
theorem dX8_save_14 : decode cX8_save 14 = .ok (.iconst 0, 1) := by decide +kernel
theorem dX8_save_15 : decode cX8_save 15 = .ok (.bipush 24, 2) := by decide +kernel
theorem dX8_save_17 : decode cX8_save 17 = .ok (.invokestatic 65, 3) := by decide +kernel
theorem dX8_save_20 : decode cX8_save 20 = .ok (.return_, 1) := by decide +kernel
theorem dX8_restore_0 : decode cX8_restore 0 = .ok (.aload_n 0, 1) := by decide +kernel
theorem dX8_restore_1 : decode cX8_restore 1 = .ok (.getfield 28, 3) := by decide +kernel
theorem dX8_restore_4 : decode cX8_restore 4 = .ok (.iload_n 1, 1) := by decide +kernel
theorem dX8_restore_5 : decode cX8_restore 5 = .ok (.aaload, 1) := by decide +kernel
theorem dX8_restore_6 : decode cX8_restore 6 = .ok (.iconst 0, 1) := by decide +kernel
theorem dX8_restore_7 : decode cX8_restore 7 = .ok (.aload_n 0, 1) := by decide +kernel
theorem dX8_restore_8 : decode cX8_restore 8 = .ok (.getfield 22, 3) := by decide +kernel
theorem dX8_restore_11 : decode cX8_restore 11 = .ok (.getfield 71, 3) := by decide +kernel
theorem dX8_restore_14 : decode cX8_restore 14 = .ok (.iconst 0, 1) := by decide +kernel
theorem dX8_restore_15 : decode cX8_restore 15 = .ok (.bipush 24, 2) := by decide +kernel
theorem dX8_restore_17 : decode cX8_restore 17 = .ok (.invokestatic 65, 3) := by decide +kernel
theorem dX8_restore_20 : decode cX8_restore 20 = .ok (.aload_n 0, 1) := by decide +kernel
theorem dX8_restore_21 : decode cX8_restore 21 = .ok (.getfield 22, 3) := by decide +kernel
theorem dX8_restore_24 : decode cX8_restore 24 = .ok (.iload_n 2, 1) := by decide +kernel
theorem dX8_restore_25 : decode cX8_restore 25 = .ok (.putfield 74, 3) := by decide +kernel
theorem dX8_restore_28 : decode cX8_restore 28 = .ok (.return_, 1) := by decide +kernel
theorem dX8_tryOrders_0 : decode cX8_tryOrders 0 = .ok (.iload 4, 2) := by decide +kernel
theorem dX8_tryOrders_2 : decode cX8_tryOrders 2 = .ok (.aload_n 0, 1) := by decide +kernel
theorem dX8_tryOrders_3 : decode cX8_tryOrders 3 = .ok (.getfield 9, 3) := by decide +kernel
theorem dX8_tryOrders_6 : decode cX8_tryOrders 6 = .ok (.getfield 77, 3) := by decide +kernel
theorem dX8_tryOrders_9 : decode cX8_tryOrders 9 = .ok (.iadd, 1) := by decide +kernel
theorem dX8_tryOrders_10 : decode cX8_tryOrders 10 = .ok (.iload_n 2, 1) := by decide +kernel
theorem dX8_tryOrders_11 : decode cX8_tryOrders 11 = .ok (.isub, 1) := by decide +kernel
theorem dX8_tryOrders_12 : decode cX8_tryOrders 12 = .ok (.aload_n 0, 1) := by decide +kernel
theorem dX8_tryOrders_13 : decode cX8_tryOrders 13 = .ok (.getfield 38, 3) := by decide +kernel
theorem dX8_tryOrders_16 : decode cX8_tryOrders 16 = .ok (.if_icmp .gt 4, 3) := by decide +kernel
theorem dX8_tryOrders_19 : decode cX8_tryOrders 19 = .ok (.return_, 1) := by decide +kernel
theorem dX8_tryOrders_20 : decode cX8_tryOrders 20 = .ok (.iload_n 2, 1) := by decide +kernel
theorem dX8_tryOrders_21 : decode cX8_tryOrders 21 = .ok (.aload_n 0, 1) := by decide +kernel
theorem dX8_tryOrders_22 : decode cX8_tryOrders 22 = .ok (.getfield 9, 3) := by decide +kernel
theorem dX8_tryOrders_25 : decode cX8_tryOrders 25 = .ok (.getfield 77, 3) := by decide +kernel
theorem dX8_tryOrders_28 : decode cX8_tryOrders 28 = .ok (.if_icmp .ge 9, 3) := by decide +kernel
theorem dX8_tryOrders_31 : decode cX8_tryOrders 31 = .ok (.iload_n 2, 1) := by decide +kernel
theorem dX8_tryOrders_32 : decode cX8_tryOrders 32 = .ok (.bipush 7, 2) := by decide +kernel
theorem dX8_tryOrders_34 : decode cX8_tryOrders 34 = .ok (.if_icmp .lt 10, 3) := by decide +kernel
theorem dX8_tryOrders_37 : decode cX8_tryOrders 37 = .ok (.aload_n 0, 1) := by decide +kernel
theorem dX8_tryOrders_38 : decode cX8_tryOrders 38 = .ok (.iload 4, 2) := by decide +kernel
theorem dX8_tryOrders_40 : decode cX8_tryOrders 40 = .ok (.invokevirtual 82, 3) := by decide +kernel
theorem dX8_tryOrders_43 : decode cX8_tryOrders 43 = .ok (.return_, 1) := by decide +kernel
theorem dX8_tryOrders_44 : decode cX8_tryOrders 44 = .ok (.aload_n 0, 1) := by decide +kernel
theorem dX8_tryOrders_45 : decode cX8_tryOrders 45 = .ok (.getfield 22, 3) := by decide +kernel
theorem dX8_tryOrders_48 : decode cX8_tryOrders 48 = .ok (.getfield 74, 3) := by decide +kernel
theorem dX8_tryOrders_51 : decode cX8_tryOrders 51 = .ok (.istore 5, 2) := by decide +kernel
theorem dX8_tryOrders_53 : decode cX8_tryOrders 53 = .ok (.aload_n 0, 1) := by decide +kernel
theorem dX8_tryOrders_54 : decode cX8_tryOrders 54 = .ok (.iload_n 2, 1) := by decide +kernel
theorem dX8_tryOrders_55 : decode cX8_tryOrders 55 = .ok (.invokevirtual 86, 3) := by decide +kernel
theorem dX8_tryOrders_58 : decode cX8_tryOrders 58 = .ok (.iconst 0, 1) := by decide +kernel
theorem dX8_tryOrders_59 : decode cX8_tryOrders 59 = .ok (.istore 6, 2) := by decide +kernel
theorem dX8_tryOrders_61 : decode cX8_tryOrders 61 = .ok (.iload 6, 2) := by decide +kernel
theorem dX8_tryOrders_63 : decode cX8_tryOrders 63 = .ok (.aload_n 0, 1) := by decide +kernel
theorem dX8_tryOrders_64 : decode cX8_tryOrders 64 = .ok (.getfield 9, 3) := by decide +kernel
theorem dX8_tryOrders_67 : decode cX8_tryOrders 67 = .ok (.getfield 77, 3) := by decide +kernel
theorem dX8_tryOrders_70 : decode cX8_tryOrders 70 = .ok (.if_icmp .ge 83, 3) := by decide +kernel
theorem dX8_tryOrders_73 : decode cX8_tryOrders 73 = .ok (.iload_n 3, 1) := by decide +kernel
theorem dX8_tryOrders_74 : decode cX8_tryOrders 74 = .ok (.iload 6, 2) := by decide +kernel
theorem dX8_tryOrders_76 : decode cX8_tryOrders 76 = .ok (.ishr, 1) := by decide +kernel
theorem dX8_tryOrders_77 : decode cX8_tryOrders 77 = .ok (.iconst 1, 1) := by decide +kernel
theorem dX8_tryOrders_78 : decode cX8_tryOrders 78 = .ok (.iand, 1) := by decide +kernel
theorem dX8_tryOrders_79 : decode cX8_tryOrders 79 = .ok (.iconst 1, 1) := by decide +kernel
theorem dX8_tryOrders_80 : decode cX8_tryOrders 80 = .ok (.if_icmp .ne 6, 3) := by decide +kernel
theorem dX8_tryOrders_83 : decode cX8_tryOrders 83 = .ok (.goto 64, 3) := by decide +kernel
theorem dX8_tryOrders_86 : decode cX8_tryOrders 86 = .ok (.aload_n 0, 1) := by decide +kernel
theorem dX8_tryOrders_87 : decode cX8_tryOrders 87 = .ok (.getfield 31, 3) := by decide +kernel
theorem dX8_tryOrders_90 : decode cX8_tryOrders 90 = .ok (.iload_n 2, 1) := by decide +kernel
theorem dX8_tryOrders_91 : decode cX8_tryOrders 91 = .ok (.iload 6, 2) := by decide +kernel
theorem dX8_tryOrders_93 : decode cX8_tryOrders 93 = .ok (.iastore, 1) := by decide +kernel
theorem dX8_tryOrders_94 : decode cX8_tryOrders 94 = .ok (.aload_n 0, 1) := by decide +kernel
theorem dX8_tryOrders_95 : decode cX8_tryOrders 95 = .ok (.getfield 15, 3) := by decide +kernel
theorem dX8_tryOrders_98 : decode cX8_tryOrders 98 = .ok (.aload_n 0, 1) := by decide +kernel
theorem dX8_tryOrders_99 : decode cX8_tryOrders 99 = .ok (.getfield 22, 3) := by decide +kernel
theorem dX8_tryOrders_102 : decode cX8_tryOrders 102 = .ok (.iload_n 1, 1) := by decide +kernel
theorem dX8_tryOrders_103 : decode cX8_tryOrders 103 = .ok (.iload 6, 2) := by decide +kernel
theorem dX8_tryOrders_105 : decode cX8_tryOrders 105 = .ok (.iconst 0, 1) := by decide +kernel
theorem dX8_tryOrders_106 : decode cX8_tryOrders 106 = .ok (.iconst 0, 1) := by decide +kernel
theorem dX8_tryOrders_107 : decode cX8_tryOrders 107 = .ok (.invokevirtual 89, 3) := by decide +kernel
theorem dX8_tryOrders_110 : decode cX8_tryOrders 110 = .ok (.iconst (-1), 1) := by decide +kernel
theorem dX8_tryOrders_111 : decode cX8_tryOrders 111 = .ok (.if_icmp .ne 7, 3) := by decide +kernel
theorem dX8_tryOrders_114 : decode cX8_tryOrders 114 = .ok (.iconst 1, 1) := by decide +kernel
theorem dX8_tryOrders_115 : decode cX8_tryOrders 115 = .ok (.goto 4, 3) := by decide +kernel
theorem dX8_tryOrders_118 : decode cX8_tryOrders 118 = .ok (.iconst 0, 1) := by decide +kernel
theorem dX8_tryOrders_119 : decode cX8_tryOrders 119 = .ok (.istore 7, 2) := by decide +kernel
theorem dX8_tryOrders_121 : decode cX8_tryOrders 121 = .ok (.aload_n 0, 1) := by decide +kernel
theorem dX8_tryOrders_122 : decode cX8_tryOrders 122 = .ok (.iload_n 1, 1) := by decide +kernel
theorem dX8_tryOrders_123 : decode cX8_tryOrders 123 = .ok (.iload_n 2, 1) := by decide +kernel
theorem dX8_tryOrders_124 : decode cX8_tryOrders 124 = .ok (.iconst 1, 1) := by decide +kernel
theorem dX8_tryOrders_125 : decode cX8_tryOrders 125 = .ok (.iadd, 1) := by decide +kernel
theorem dX8_tryOrders_126 : decode cX8_tryOrders 126 = .ok (.iload_n 3, 1) := by decide +kernel
theorem dX8_tryOrders_127 : decode cX8_tryOrders 127 = .ok (.iconst 1, 1) := by decide +kernel
theorem dX8_tryOrders_128 : decode cX8_tryOrders 128 = .ok (.iload 6, 2) := by decide +kernel
theorem dX8_tryOrders_130 : decode cX8_tryOrders 130 = .ok (.ishl, 1) := by decide +kernel
theorem dX8_tryOrders_131 : decode cX8_tryOrders 131 = .ok (.ior, 1) := by decide +kernel
theorem dX8_tryOrders_132 : decode cX8_tryOrders 132 = .ok (.iload 4, 2) := by decide +kernel
theorem dX8_tryOrders_134 : decode cX8_tryOrders 134 = .ok (.iload 7, 2) := by decide +kernel
theorem dX8_tryOrders_136 : decode cX8_tryOrders 136 = .ok (.iadd, 1) := by decide +kernel
theorem dX8_tryOrders_137 : decode cX8_tryOrders 137 = .ok (.invokevirtual 46, 3) := by decide +kernel
theorem dX8_tryOrders_140 : decode cX8_tryOrders 140 = .ok (.aload_n 0, 1) := by decide +kernel
theorem dX8_tryOrders_141 : decode cX8_tryOrders 141 = .ok (.iload_n 2, 1) := by decide +kernel
theorem dX8_tryOrders_142 : decode cX8_tryOrders 142 = .ok (.iload 5, 2) := by decide +kernel
theorem dX8_tryOrders_144 : decode cX8_tryOrders 144 = .ok (.invokevirtual 93, 3) := by decide +kernel
theorem dX8_tryOrders_147 : decode cX8_tryOrders 147 = .ok (.iinc 6 1, 3) := by decide +kernel
theorem dX8_tryOrders_150 : decode cX8_tryOrders 150 = .ok (.goto (-89), 3) := by decide +kernel
theorem dX8_tryOrders_153 : decode cX8_tryOrders 153 = .ok (.return_, 1) := by decide +kernel
theorem dX8_tryWaiting_0 : decode cX8_tryWaiting 0 = .ok (.aload_n 0, 1) := by decide +kernel
theorem dX8_tryWaiting_1 : decode cX8_tryWaiting 1 = .ok (.getfield 22, 3) := by decide +kernel
theorem dX8_tryWaiting_4 : decode cX8_tryWaiting 4 = .ok (.getfield 74, 3) := by decide +kernel
theorem dX8_tryWaiting_7 : decode cX8_tryWaiting 7 = .ok (.aload_n 0, 1) := by decide +kernel
theorem dX8_tryWaiting_8 : decode cX8_tryWaiting 8 = .ok (.getfield 38, 3) := by decide +kernel
theorem dX8_tryWaiting_11 : decode cX8_tryWaiting 11 = .ok (.if_icmp .lt 4, 3) := by decide +kernel
theorem dX8_tryWaiting_14 : decode cX8_tryWaiting 14 = .ok (.return_, 1) := by decide +kernel
theorem dX8_tryWaiting_15 : decode cX8_tryWaiting 15 = .ok (.iload_n 2, 1) := by decide +kernel
theorem dX8_tryWaiting_16 : decode cX8_tryWaiting 16 = .ok (.aload_n 0, 1) := by decide +kernel
theorem dX8_tryWaiting_17 : decode cX8_tryWaiting 17 = .ok (.getfield 9, 3) := by decide +kernel
theorem dX8_tryWaiting_20 : decode cX8_tryWaiting 20 = .ok (.getfield 77, 3) := by decide +kernel
theorem dX8_tryWaiting_23 : decode cX8_tryWaiting 23 = .ok (.if_icmp .ge 9, 3) := by decide +kernel
theorem dX8_tryWaiting_26 : decode cX8_tryWaiting 26 = .ok (.iload_n 2, 1) := by decide +kernel
theorem dX8_tryWaiting_27 : decode cX8_tryWaiting 27 = .ok (.bipush 7, 2) := by decide +kernel
theorem dX8_tryWaiting_29 : decode cX8_tryWaiting 29 = .ok (.if_icmp .lt 15, 3) := by decide +kernel
theorem dX8_tryWaiting_32 : decode cX8_tryWaiting 32 = .ok (.aload_n 0, 1) := by decide +kernel
theorem dX8_tryWaiting_33 : decode cX8_tryWaiting 33 = .ok (.aload_n 0, 1) := by decide +kernel
theorem dX8_tryWaiting_34 : decode cX8_tryWaiting 34 = .ok (.getfield 22, 3) := by decide +kernel
theorem dX8_tryWaiting_37 : decode cX8_tryWaiting 37 = .ok (.getfield 74, 3) := by decide +kernel
theorem dX8_tryWaiting_40 : decode cX8_tryWaiting 40 = .ok (.invokevirtual 82, 3) := by decide +kernel
theorem dX8_tryWaiting_43 : decode cX8_tryWaiting 43 = .ok (.return_, 1) := by decide +kernel
theorem dX8_tryWaiting_44 : decode cX8_tryWaiting 44 = .ok (.aload_n 0, 1) := by decide +kernel
theorem dX8_tryWaiting_45 : decode cX8_tryWaiting 45 = .ok (.getfield 22, 3) := by decide +kernel
theorem dX8_tryWaiting_48 : decode cX8_tryWaiting 48 = .ok (.getfield 74, 3) := by decide +kernel
theorem dX8_tryWaiting_51 : decode cX8_tryWaiting 51 = .ok (.istore 4, 2) := by decide +kernel
theorem dX8_tryWaiting_53 : decode cX8_tryWaiting 53 = .ok (.aload_n 0, 1) := by decide +kernel
theorem dX8_tryWaiting_54 : decode cX8_tryWaiting 54 = .ok (.iload_n 2, 1) := by decide +kernel
theorem dX8_tryWaiting_55 : decode cX8_tryWaiting 55 = .ok (.invokevirtual 86, 3) := by decide +kernel
theorem dX8_tryWaiting_58 : decode cX8_tryWaiting 58 = .ok (.iconst 0, 1) := by decide +kernel
theorem dX8_tryWaiting_59 : decode cX8_tryWaiting 59 = .ok (.istore 5, 2) := by decide +kernel
theorem dX8_tryWaiting_61 : decode cX8_tryWaiting 61 = .ok (.iload 5, 2) := by decide +kernel
theorem dX8_tryWaiting_63 : decode cX8_tryWaiting 63 = .ok (.aload_n 0, 1) := by decide +kernel
theorem dX8_tryWaiting_64 : decode cX8_tryWaiting 64 = .ok (.getfield 9, 3) := by decide +kernel
theorem dX8_tryWaiting_67 : decode cX8_tryWaiting 67 = .ok (.getfield 77, 3) := by decide +kernel
theorem dX8_tryWaiting_70 : decode cX8_tryWaiting 70 = .ok (.if_icmp .ge 106, 3) := by decide +kernel
theorem dX8_tryWaiting_73 : decode cX8_tryWaiting 73 = .ok (.iload_n 3, 1) := by decide +kernel
theorem dX8_tryWaiting_74 : decode cX8_tryWaiting 74 = .ok (.iload 5, 2) := by decide +kernel
theorem dX8_tryWaiting_76 : decode cX8_tryWaiting 76 = .ok (.ishr, 1) := by decide +kernel
theorem dX8_tryWaiting_77 : decode cX8_tryWaiting 77 = .ok (.iconst 1, 1) := by decide +kernel
theorem dX8_tryWaiting_78 : decode cX8_tryWaiting 78 = .ok (.iand, 1) := by decide +kernel
theorem dX8_tryWaiting_79 : decode cX8_tryWaiting 79 = .ok (.iconst 1, 1) := by decide +kernel
theorem dX8_tryWaiting_80 : decode cX8_tryWaiting 80 = .ok (.if_icmp .ne 6, 3) := by decide +kernel
theorem dX8_tryWaiting_83 : decode cX8_tryWaiting 83 = .ok (.goto 87, 3) := by decide +kernel
theorem dX8_tryWaiting_86 : decode cX8_tryWaiting 86 = .ok (.aload_n 0, 1) := by decide +kernel
theorem dX8_tryWaiting_87 : decode cX8_tryWaiting 87 = .ok (.getfield 15, 3) := by decide +kernel
theorem dX8_tryWaiting_90 : decode cX8_tryWaiting 90 = .ok (.aload_n 0, 1) := by decide +kernel
theorem dX8_tryWaiting_91 : decode cX8_tryWaiting 91 = .ok (.getfield 22, 3) := by decide +kernel
theorem dX8_tryWaiting_94 : decode cX8_tryWaiting 94 = .ok (.iload_n 1, 1) := by decide +kernel
theorem dX8_tryWaiting_95 : decode cX8_tryWaiting 95 = .ok (.iload 5, 2) := by decide +kernel
theorem dX8_tryWaiting_97 : decode cX8_tryWaiting 97 = .ok (.invokevirtual 96, 3) := by decide +kernel
theorem dX8_tryWaiting_100 : decode cX8_tryWaiting 100 = .ok (.istore 6, 2) := by decide +kernel
theorem dX8_tryWaiting_102 : decode cX8_tryWaiting 102 = .ok (.iload 6, 2) := by decide +kernel
theorem dX8_tryWaiting_104 : decode cX8_tryWaiting 104 = .ok (.iconst (-1), 1) := by decide +kernel
theorem dX8_tryWaiting_105 : decode cX8_tryWaiting 105 = .ok (.if_icmp .ne 6, 3) := by decide +kernel
theorem dX8_tryWaiting_108 : decode cX8_tryWaiting 108 = .ok (.goto 62, 3) := by decide +kernel
theorem dX8_tryWaiting_111 : decode cX8_tryWaiting 111 = .ok (.aload_n 0, 1) := by decide +kernel
theorem dX8_tryWaiting_112 : decode cX8_tryWaiting 112 = .ok (.getfield 31, 3) := by decide +kernel
theorem dX8_tryWaiting_115 : decode cX8_tryWaiting 115 = .ok (.iload_n 2, 1) := by decide +kernel
theorem dX8_tryWaiting_116 : decode cX8_tryWaiting 116 = .ok (.iload 5, 2) := by decide +kernel
theorem dX8_tryWaiting_118 : decode cX8_tryWaiting 118 = .ok (.iastore, 1) := by decide +kernel
theorem dX8_tryWaiting_119 : decode cX8_tryWaiting 119 = .ok (.aload_n 0, 1) := by decide +kernel
theorem dX8_tryWaiting_120 : decode cX8_tryWaiting 120 = .ok (.getfield 15, 3) := by decide +kernel
theorem dX8_tryWaiting_123 : decode cX8_tryWaiting 123 = .ok (.aload_n 0, 1) := by decide +kernel
theorem dX8_tryWaiting_124 : decode cX8_tryWaiting 124 = .ok (.getfield 22, 3) := by decide +kernel
theorem dX8_tryWaiting_127 : decode cX8_tryWaiting 127 = .ok (.iload 6, 2) := by decide +kernel
theorem dX8_tryWaiting_129 : decode cX8_tryWaiting 129 = .ok (.invokevirtual 100, 3) := by decide +kernel
theorem dX8_tryWaiting_132 : decode cX8_tryWaiting 132 = .ok (.aload_n 0, 1) := by decide +kernel
theorem dX8_tryWaiting_133 : decode cX8_tryWaiting 133 = .ok (.getfield 15, 3) := by decide +kernel
theorem dX8_tryWaiting_136 : decode cX8_tryWaiting 136 = .ok (.aload_n 0, 1) := by decide +kernel
theorem dX8_tryWaiting_137 : decode cX8_tryWaiting 137 = .ok (.getfield 22, 3) := by decide +kernel
theorem dX8_tryWaiting_140 : decode cX8_tryWaiting 140 = .ok (.iload_n 1, 1) := by decide +kernel
theorem dX8_tryWaiting_141 : decode cX8_tryWaiting 141 = .ok (.iload 5, 2) := by decide +kernel
theorem dX8_tryWaiting_143 : decode cX8_tryWaiting 143 = .ok (.iconst 0, 1) := by decide +kernel
theorem dX8_tryWaiting_144 : decode cX8_tryWaiting 144 = .ok (.iconst 0, 1) := by decide +kernel
theorem dX8_tryWaiting_145 : decode cX8_tryWaiting 145 = .ok (.invokevirtual 89, 3) := by decide +kernel
theorem dX8_tryWaiting_148 : decode cX8_tryWaiting 148 = .ok (.pop, 1) := by decide +kernel
theorem dX8_tryWaiting_149 : decode cX8_tryWaiting 149 = .ok (.aload_n 0, 1) := by decide +kernel
theorem dX8_tryWaiting_150 : decode cX8_tryWaiting 150 = .ok (.iload_n 1, 1) := by decide +kernel
theorem dX8_tryWaiting_151 : decode cX8_tryWaiting 151 = .ok (.iload_n 2, 1) := by decide +kernel
theorem dX8_tryWaiting_152 : decode cX8_tryWaiting 152 = .ok (.iconst 1, 1) := by decide +kernel
theorem dX8_tryWaiting_153 : decode cX8_tryWaiting 153 = .ok (.iadd, 1) := by decide +kernel
theorem dX8_tryWaiting_154 : decode cX8_tryWaiting 154 = .ok (.iload_n 3, 1) := by decide +kernel
theorem dX8_tryWaiting_155 : decode cX8_tryWaiting 155 = .ok (.iconst 1, 1) := by decide +kernel
theorem dX8_tryWaiting_156 : decode cX8_tryWaiting 156 = .ok (.iload 5, 2) := by decide +kernel
theorem dX8_tryWaiting_158 : decode cX8_tryWaiting 158 = .ok (.ishl, 1) := by decide +kernel
theorem dX8_tryWaiting_159 : decode cX8_tryWaiting 159 = .ok (.ior, 1) := by decide +kernel
theorem dX8_tryWaiting_160 : decode cX8_tryWaiting 160 = .ok (.invokevirtual 51, 3) := by decide +kernel
theorem dX8_tryWaiting_163 : decode cX8_tryWaiting 163 = .ok (.aload_n 0, 1) := by decide +kernel
theorem dX8_tryWaiting_164 : decode cX8_tryWaiting 164 = .ok (.iload_n 2, 1) := by decide +kernel
theorem dX8_tryWaiting_165 : decode cX8_tryWaiting 165 = .ok (.iload 4, 2) := by decide +kernel
theorem dX8_tryWaiting_167 : decode cX8_tryWaiting 167 = .ok (.invokevirtual 93, 3) := by decide +kernel
theorem dX8_tryWaiting_170 : decode cX8_tryWaiting 170 = .ok (.iinc 5 1, 3) := by decide +kernel
theorem dX8_tryWaiting_173 : decode cX8_tryWaiting 173 = .ok (.goto (-112), 3) := by decide +kernel
theorem dX8_tryWaiting_176 : decode cX8_tryWaiting 176 = .ok (.return_, 1) := by decide +kernel

theorem kbp_m100 : (Int8.ofInt (-100)).toInt32 = (-100 : Int32) := by decide
theorem kbp_m11 : (Int8.ofInt (-11)).toInt32 = (-11 : Int32) := by decide
theorem kbp_m12 : (Int8.ofInt (-12)).toInt32 = (-12 : Int32) := by decide
theorem kbp_m13 : (Int8.ofInt (-13)).toInt32 = (-13 : Int32) := by decide
theorem kbp_m14 : (Int8.ofInt (-14)).toInt32 = (-14 : Int32) := by decide
theorem kbp_m2 : (Int8.ofInt (-2)).toInt32 = (-2 : Int32) := by decide
theorem kbp_m3 : (Int8.ofInt (-3)).toInt32 = (-3 : Int32) := by decide
theorem kbp_m5 : (Int8.ofInt (-5)).toInt32 = (-5 : Int32) := by decide
theorem kbp_10 : (Int8.ofInt (10)).toInt32 = (10 : Int32) := by decide
theorem kbp_103 : (Int8.ofInt (103)).toInt32 = (103 : Int32) := by decide
theorem kbp_11 : (Int8.ofInt (11)).toInt32 = (11 : Int32) := by decide
theorem kbp_110 : (Int8.ofInt (110)).toInt32 = (110 : Int32) := by decide
theorem kbp_117 : (Int8.ofInt (117)).toInt32 = (117 : Int32) := by decide
theorem kbp_12 : (Int8.ofInt (12)).toInt32 = (12 : Int32) := by decide
theorem kbp_120 : (Int8.ofInt (120)).toInt32 = (120 : Int32) := by decide
theorem kbp_124 : (Int8.ofInt (124)).toInt32 = (124 : Int32) := by decide
theorem kbp_126 : (Int8.ofInt (126)).toInt32 = (126 : Int32) := by decide
theorem kbp_20 : (Int8.ofInt (20)).toInt32 = (20 : Int32) := by decide
theorem kbp_24 : (Int8.ofInt (24)).toInt32 = (24 : Int32) := by decide
theorem kbp_25 : (Int8.ofInt (25)).toInt32 = (25 : Int32) := by decide
theorem kbp_26 : (Int8.ofInt (26)).toInt32 = (26 : Int32) := by decide
theorem kbp_27 : (Int8.ofInt (27)).toInt32 = (27 : Int32) := by decide
theorem kbp_28 : (Int8.ofInt (28)).toInt32 = (28 : Int32) := by decide
theorem kbp_29 : (Int8.ofInt (29)).toInt32 = (29 : Int32) := by decide
theorem kbp_30 : (Int8.ofInt (30)).toInt32 = (30 : Int32) := by decide
theorem kbp_32 : (Int8.ofInt (32)).toInt32 = (32 : Int32) := by decide
theorem kbp_33 : (Int8.ofInt (33)).toInt32 = (33 : Int32) := by decide
theorem kbp_37 : (Int8.ofInt (37)).toInt32 = (37 : Int32) := by decide
theorem kbp_38 : (Int8.ofInt (38)).toInt32 = (38 : Int32) := by decide
theorem kbp_39 : (Int8.ofInt (39)).toInt32 = (39 : Int32) := by decide
theorem kbp_40 : (Int8.ofInt (40)).toInt32 = (40 : Int32) := by decide
theorem kbp_41 : (Int8.ofInt (41)).toInt32 = (41 : Int32) := by decide
theorem kbp_42 : (Int8.ofInt (42)).toInt32 = (42 : Int32) := by decide
theorem kbp_43 : (Int8.ofInt (43)).toInt32 = (43 : Int32) := by decide
theorem kbp_45 : (Int8.ofInt (45)).toInt32 = (45 : Int32) := by decide
theorem kbp_47 : (Int8.ofInt (47)).toInt32 = (47 : Int32) := by decide
theorem kbp_48 : (Int8.ofInt (48)).toInt32 = (48 : Int32) := by decide
theorem kbp_50 : (Int8.ofInt (50)).toInt32 = (50 : Int32) := by decide
theorem kbp_57 : (Int8.ofInt (57)).toInt32 = (57 : Int32) := by decide
theorem kbp_59 : (Int8.ofInt (59)).toInt32 = (59 : Int32) := by decide
theorem kbp_6 : (Int8.ofInt (6)).toInt32 = (6 : Int32) := by decide
theorem kbp_60 : (Int8.ofInt (60)).toInt32 = (60 : Int32) := by decide
theorem kbp_61 : (Int8.ofInt (61)).toInt32 = (61 : Int32) := by decide
theorem kbp_62 : (Int8.ofInt (62)).toInt32 = (62 : Int32) := by decide
theorem kbp_63 : (Int8.ofInt (63)).toInt32 = (63 : Int32) := by decide
theorem kbp_7 : (Int8.ofInt (7)).toInt32 = (7 : Int32) := by decide
theorem kbp_70 : (Int8.ofInt (70)).toInt32 = (70 : Int32) := by decide
theorem kbp_72 : (Int8.ofInt (72)).toInt32 = (72 : Int32) := by decide
theorem kbp_8 : (Int8.ofInt (8)).toInt32 = (8 : Int32) := by decide
theorem kbp_80 : (Int8.ofInt (80)).toInt32 = (80 : Int32) := by decide
theorem kbp_81 : (Int8.ofInt (81)).toInt32 = (81 : Int32) := by decide
theorem kbp_9 : (Int8.ofInt (9)).toInt32 = (9 : Int32) := by decide
theorem kbp_96 : (Int8.ofInt (96)).toInt32 = (96 : Int32) := by decide
theorem kbp_99 : (Int8.ofInt (99)).toInt32 = (99 : Int32) := by decide
theorem kic_m1 : Int32.ofInt (-1) = (-1 : Int32) := by decide
theorem kic_0 : Int32.ofInt (0) = (0 : Int32) := by decide
theorem kic_1 : Int32.ofInt (1) = (1 : Int32) := by decide
theorem kic_2 : Int32.ofInt (2) = (2 : Int32) := by decide
theorem kic_3 : Int32.ofInt (3) = (3 : Int32) := by decide
theorem kic_4 : Int32.ofInt (4) = (4 : Int32) := by decide
theorem kic_5 : Int32.ofInt (5) = (5 : Int32) := by decide
theorem kic_6 : Int32.ofInt (6) = (6 : Int32) := by decide
theorem klc_0 : Int64.ofNat ((0 : Fin 2) : Nat) = (0 : Int64) := by decide
theorem klc_1 : Int64.ofNat ((1 : Fin 2) : Nat) = (1 : Int64) := by decide
theorem kln_121 : Int32.ofNat 121 = (121 : Int32) := by decide
theorem nn_0 : (0 : Int32).toNatClampNeg = 0 := by decide
theorem nn_1 : (1 : Int32).toNatClampNeg = 1 := by decide
theorem nn_124 : (124 : Int32).toNatClampNeg = 124 := by decide
theorem nn_2 : (2 : Int32).toNatClampNeg = 2 := by decide
theorem nn_24 : (24 : Int32).toNatClampNeg = 24 := by decide
theorem nn_25 : (25 : Int32).toNatClampNeg = 25 := by decide
theorem nn_26 : (26 : Int32).toNatClampNeg = 26 := by decide
theorem nn_27 : (27 : Int32).toNatClampNeg = 27 := by decide
theorem nn_28 : (28 : Int32).toNatClampNeg = 28 := by decide
theorem nn_29 : (29 : Int32).toNatClampNeg = 29 := by decide
theorem nn_3 : (3 : Int32).toNatClampNeg = 3 := by decide
theorem nn_4 : (4 : Int32).toNatClampNeg = 4 := by decide
theorem nn_5 : (5 : Int32).toNatClampNeg = 5 := by decide
theorem ksp_10000 : (Int16.ofInt (10000)).toInt32 = (10000 : Int32) := by decide
theorem ksp_11000 : (Int16.ofInt (11000)).toInt32 = (11000 : Int32) := by decide
theorem ksp_11033 : (Int16.ofInt (11033)).toInt32 = (11033 : Int32) := by decide
theorem ksp_11126 : (Int16.ofInt (11126)).toInt32 = (11126 : Int32) := by decide
theorem ksp_12000 : (Int16.ofInt (12000)).toInt32 = (12000 : Int32) := by decide
theorem ksp_12345 : (Int16.ofInt (12345)).toInt32 = (12345 : Int32) := by decide
theorem ksp_13000 : (Int16.ofInt (13000)).toInt32 = (13000 : Int32) := by decide
theorem ksp_200 : (Int16.ofInt (200)).toInt32 = (200 : Int32) := by decide
theorem ksp_255 : (Int16.ofInt (255)).toInt32 = (255 : Int32) := by decide
theorem ksp_256 : (Int16.ofInt (256)).toInt32 = (256 : Int32) := by decide
theorem ksp_999 : (Int16.ofInt (999)).toInt32 = (999 : Int32) := by decide
theorem ksp_9999 : (Int16.ofInt (9999)).toInt32 = (9999 : Int32) := by decide
theorem vin_0_4 : vp_in (0 : Int32) 4 := by unfold vp_in; decide
theorem vin_0_5 : vp_in (0 : Int32) 5 := by unfold vp_in; decide
theorem vin_0_6 : vp_in (0 : Int32) 6 := by unfold vp_in; decide
theorem vin_0_9 : vp_in (0 : Int32) 9 := by unfold vp_in; decide
theorem vin_1_5 : vp_in (1 : Int32) 5 := by unfold vp_in; decide
theorem vin_1_6 : vp_in (1 : Int32) 6 := by unfold vp_in; decide
theorem vin_124_125 : vp_in (124 : Int32) 125 := by unfold vp_in; decide
theorem vin_2_5 : vp_in (2 : Int32) 5 := by unfold vp_in; decide
theorem vin_2_6 : vp_in (2 : Int32) 6 := by unfold vp_in; decide
theorem vin_24_30 : vp_in (24 : Int32) 30 := by unfold vp_in; decide
theorem vin_25_30 : vp_in (25 : Int32) 30 := by unfold vp_in; decide
theorem vin_26_30 : vp_in (26 : Int32) 30 := by unfold vp_in; decide
theorem vin_27_30 : vp_in (27 : Int32) 30 := by unfold vp_in; decide
theorem vin_28_30 : vp_in (28 : Int32) 30 := by unfold vp_in; decide
theorem vin_29_30 : vp_in (29 : Int32) 30 := by unfold vp_in; decide
theorem vin_3_5 : vp_in (3 : Int32) 5 := by unfold vp_in; decide
theorem vin_3_6 : vp_in (3 : Int32) 6 := by unfold vp_in; decide
theorem vin_4_5 : vp_in (4 : Int32) 5 := by unfold vp_in; decide
theorem vin_4_6 : vp_in (4 : Int32) 6 := by unfold vp_in; decide
theorem vin_5_6 : vp_in (5 : Int32) 6 := by unfold vp_in; decide
theorem cw_X2_32 : jcw RX2 32 := ⟨jw_t (i := 439) (by decide +kernel) (by decide +kernel), jw_t (i := 441) (by decide +kernel) (by decide +kernel), jw_t (i := 440) (by decide +kernel) (by decide +kernel), wi_J10⟩
theorem cw_X3_45 : jcw RX3 45 := ⟨jw_t (i := 453) (by decide +kernel) (by decide +kernel), jw_t (i := 441) (by decide +kernel) (by decide +kernel), jw_t (i := 440) (by decide +kernel) (by decide +kernel), wi_J10⟩
theorem mw_X3_74 : jmx RX3 74 := ⟨jw_t (i := 465) (by decide +kernel) (by decide +kernel), jw_t (i := 466) (by decide +kernel) (by decide +kernel), wi_J9, jw_t (i := 467) (by decide +kernel) (by decide +kernel)⟩
theorem cw_X6_48 : jcw RX6 48 := ⟨jw_t (i := 521) (by decide +kernel) (by decide +kernel), jw_t (i := 441) (by decide +kernel) (by decide +kernel), jw_t (i := 440) (by decide +kernel) (by decide +kernel), wi_J10⟩
theorem mw_X10_49 : jmn RX10 49 := ⟨jw_t (i := 544) (by decide +kernel) (by decide +kernel), jw_t (i := 545) (by decide +kernel) (by decide +kernel), wi_J9, jw_t (i := 546) (by decide +kernel) (by decide +kernel)⟩
theorem mw_X3_93 : jmn RX3 93 := ⟨jw_t (i := 601) (by decide +kernel) (by decide +kernel), jw_t (i := 545) (by decide +kernel) (by decide +kernel), wi_J9, jw_t (i := 546) (by decide +kernel) (by decide +kernel)⟩
theorem cw_X8_65 : jcw RX8 65 := ⟨jw_t (i := 635) (by decide +kernel) (by decide +kernel), jw_t (i := 441) (by decide +kernel) (by decide +kernel), jw_t (i := 440) (by decide +kernel) (by decide +kernel), wi_J10⟩
theorem mw_X11_369 : jmn RX11 369 := ⟨jw_t (i := 818) (by decide +kernel) (by decide +kernel), jw_t (i := 545) (by decide +kernel) (by decide +kernel), wi_J9, jw_t (i := 546) (by decide +kernel) (by decide +kernel)⟩
theorem mw_X4_36 : jmx RX4 36 := ⟨jw_t (i := 851) (by decide +kernel) (by decide +kernel), jw_t (i := 466) (by decide +kernel) (by decide +kernel), wi_J9, jw_t (i := 467) (by decide +kernel) (by decide +kernel)⟩
theorem cw_X4_45 : jcw RX4 45 := ⟨jw_t (i := 873) (by decide +kernel) (by decide +kernel), jw_t (i := 441) (by decide +kernel) (by decide +kernel), jw_t (i := 440) (by decide +kernel) (by decide +kernel), wi_J10⟩
theorem cw_X9_64 : jcw RX9 64 := ⟨jw_t (i := 1008) (by decide +kernel) (by decide +kernel), jw_t (i := 441) (by decide +kernel) (by decide +kernel), jw_t (i := 440) (by decide +kernel) (by decide +kernel), wi_J10⟩

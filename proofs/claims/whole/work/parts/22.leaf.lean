theorem zl_m2000000000 : (-2000000000 : Int32).toInt = -2000000000 := by decide
theorem zl_m100 : (-100 : Int32).toInt = -100 := by decide
theorem zl_m14 : (-14 : Int32).toInt = -14 := by decide
theorem zl_m13 : (-13 : Int32).toInt = -13 := by decide
theorem zl_m12 : (-12 : Int32).toInt = -12 := by decide
theorem zl_m11 : (-11 : Int32).toInt = -11 := by decide
theorem zl_m5 : (-5 : Int32).toInt = -5 := by decide
theorem zl_m3 : (-3 : Int32).toInt = -3 := by decide
theorem zl_m2 : (-2 : Int32).toInt = -2 := by decide
theorem zl_m1 : (-1 : Int32).toInt = -1 := by decide
theorem zl_0 : (0 : Int32).toInt = 0 := by decide
theorem zl_1 : (1 : Int32).toInt = 1 := by decide
theorem zl_2 : (2 : Int32).toInt = 2 := by decide
theorem zl_3 : (3 : Int32).toInt = 3 := by decide
theorem zl_4 : (4 : Int32).toInt = 4 := by decide
theorem zl_5 : (5 : Int32).toInt = 5 := by decide
theorem zl_6 : (6 : Int32).toInt = 6 := by decide
theorem zl_7 : (7 : Int32).toInt = 7 := by decide
theorem zl_8 : (8 : Int32).toInt = 8 := by decide
theorem zl_9 : (9 : Int32).toInt = 9 := by decide
theorem zl_10 : (10 : Int32).toInt = 10 := by decide
theorem zl_11 : (11 : Int32).toInt = 11 := by decide
theorem zl_12 : (12 : Int32).toInt = 12 := by decide
theorem zl_20 : (20 : Int32).toInt = 20 := by decide
theorem zl_24 : (24 : Int32).toInt = 24 := by decide
theorem zl_25 : (25 : Int32).toInt = 25 := by decide
theorem zl_26 : (26 : Int32).toInt = 26 := by decide
theorem zl_27 : (27 : Int32).toInt = 27 := by decide
theorem zl_28 : (28 : Int32).toInt = 28 := by decide
theorem zl_29 : (29 : Int32).toInt = 29 := by decide
theorem zl_30 : (30 : Int32).toInt = 30 := by decide
theorem zl_32 : (32 : Int32).toInt = 32 := by decide
theorem zl_33 : (33 : Int32).toInt = 33 := by decide
theorem zl_37 : (37 : Int32).toInt = 37 := by decide
theorem zl_38 : (38 : Int32).toInt = 38 := by decide
theorem zl_39 : (39 : Int32).toInt = 39 := by decide
theorem zl_40 : (40 : Int32).toInt = 40 := by decide
theorem zl_41 : (41 : Int32).toInt = 41 := by decide
theorem zl_42 : (42 : Int32).toInt = 42 := by decide
theorem zl_43 : (43 : Int32).toInt = 43 := by decide
theorem zl_45 : (45 : Int32).toInt = 45 := by decide
theorem zl_47 : (47 : Int32).toInt = 47 := by decide
theorem zl_48 : (48 : Int32).toInt = 48 := by decide
theorem zl_50 : (50 : Int32).toInt = 50 := by decide
theorem zl_57 : (57 : Int32).toInt = 57 := by decide
theorem zl_59 : (59 : Int32).toInt = 59 := by decide
theorem zl_60 : (60 : Int32).toInt = 60 := by decide
theorem zl_61 : (61 : Int32).toInt = 61 := by decide
theorem zl_62 : (62 : Int32).toInt = 62 := by decide
theorem zl_63 : (63 : Int32).toInt = 63 := by decide
theorem zl_70 : (70 : Int32).toInt = 70 := by decide
theorem zl_72 : (72 : Int32).toInt = 72 := by decide
theorem zl_80 : (80 : Int32).toInt = 80 := by decide
theorem zl_81 : (81 : Int32).toInt = 81 := by decide
theorem zl_96 : (96 : Int32).toInt = 96 := by decide
theorem zl_99 : (99 : Int32).toInt = 99 := by decide
theorem zl_103 : (103 : Int32).toInt = 103 := by decide
theorem zl_110 : (110 : Int32).toInt = 110 := by decide
theorem zl_117 : (117 : Int32).toInt = 117 := by decide
theorem zl_120 : (120 : Int32).toInt = 120 := by decide
theorem zl_121 : (121 : Int32).toInt = 121 := by decide
theorem zl_124 : (124 : Int32).toInt = 124 := by decide
theorem zl_126 : (126 : Int32).toInt = 126 := by decide
theorem zl_200 : (200 : Int32).toInt = 200 := by decide
theorem zl_255 : (255 : Int32).toInt = 255 := by decide
theorem zl_256 : (256 : Int32).toInt = 256 := by decide
theorem zl_999 : (999 : Int32).toInt = 999 := by decide
theorem zl_9999 : (9999 : Int32).toInt = 9999 := by decide
theorem zl_10000 : (10000 : Int32).toInt = 10000 := by decide
theorem zl_11000 : (11000 : Int32).toInt = 11000 := by decide
theorem zl_11033 : (11033 : Int32).toInt = 11033 := by decide
theorem zl_11126 : (11126 : Int32).toInt = 11126 := by decide
theorem zl_12000 : (12000 : Int32).toInt = 12000 := by decide
theorem zl_12345 : (12345 : Int32).toInt = 12345 := by decide
theorem zl_13000 : (13000 : Int32).toInt = 13000 := by decide
theorem zl_1000000000 : (1000000000 : Int32).toInt = 1000000000 := by decide
theorem zl_1103515245 : (1103515245 : Int32).toInt = 1103515245 := by decide
theorem zm_m9223372036854775808 : (-9223372036854775808 : Int64).toInt = -9223372036854775808 := by decide
theorem zm_m1 : (-1 : Int64).toInt = -1 := by decide
theorem zm_0 : (0 : Int64).toInt = 0 := by decide
theorem zm_1 : (1 : Int64).toInt = 1 := by decide
theorem zm_2 : (2 : Int64).toInt = 2 := by decide
theorem zm_3 : (3 : Int64).toInt = 3 := by decide
theorem zm_4 : (4 : Int64).toInt = 4 := by decide
theorem zm_5 : (5 : Int64).toInt = 5 := by decide
theorem zm_6 : (6 : Int64).toInt = 6 := by decide
theorem zm_7 : (7 : Int64).toInt = 7 := by decide
theorem zm_8 : (8 : Int64).toInt = 8 := by decide
theorem zm_9 : (9 : Int64).toInt = 9 := by decide
theorem zm_10 : (10 : Int64).toInt = 10 := by decide
theorem zm_12 : (12 : Int64).toInt = 12 := by decide
theorem zm_20 : (20 : Int64).toInt = 20 := by decide
theorem zm_23 : (23 : Int64).toInt = 23 := by decide
theorem zm_49 : (49 : Int64).toInt = 49 := by decide
theorem zm_58 : (58 : Int64).toInt = 58 := by decide
theorem zm_59 : (59 : Int64).toInt = 59 := by decide
theorem zm_60 : (60 : Int64).toInt = 60 := by decide
theorem zm_99 : (99 : Int64).toInt = 99 := by decide
theorem zm_200 : (200 : Int64).toInt = 200 := by decide
theorem zm_255 : (255 : Int64).toInt = 255 := by decide
theorem zm_999 : (999 : Int64).toInt = 999 := by decide
theorem zm_9999 : (9999 : Int64).toInt = 9999 := by decide
theorem zm_429981696 : (429981696 : Int64).toInt = 429981696 := by decide
theorem zm_4294967295 : (4294967295 : Int64).toInt = 4294967295 := by decide
section LF
variable {G : jG} {l : Launch} {d : Nat} {I : jS} {L : jL} {Q : Int32 → jS → jL → Prop}
theorem tX11_isShelf {x : Int32} (h : Q (b01 (0 ≤ x.toInt ∧ x.toInt < 6)) I L) : cI G l mX11_isShelf (d + 1) [.int x] I L Q := by
  refine wX11_isShelf_ok ?_
  unfold wX11_isShelf
  repeat' refine ife (fun _ => ?_) (fun _ => ?_)
  all_goals refine ri ?_
  all_goals simp only [zlt, zle, zeq, zin, znat, zl_m2000000000, zl_m100, zl_m14, zl_m13, zl_m12, zl_m11, zl_m5, zl_m3, zl_m2, zl_m1, zl_0, zl_1, zl_2, zl_3, zl_4, zl_5, zl_6, zl_7, zl_8, zl_9, zl_10, zl_11, zl_12, zl_20, zl_24, zl_25, zl_26, zl_27, zl_28, zl_29, zl_30, zl_32, zl_33, zl_37, zl_38, zl_39, zl_40, zl_41, zl_42, zl_43, zl_45, zl_47, zl_48, zl_50, zl_57, zl_59, zl_60, zl_61, zl_62, zl_63, zl_70, zl_72, zl_80, zl_81, zl_96, zl_99, zl_103, zl_110, zl_117, zl_120, zl_121, zl_124, zl_126, zl_200, zl_255, zl_256, zl_999, zl_9999, zl_10000, zl_11000, zl_11033, zl_11126, zl_12000, zl_12345, zl_13000, zl_1000000000, zl_1103515245] at *
  all_goals first | (rw [b01_neg (by omega)] at h; exact h) | (rw [b01_pos (by omega)] at h; exact h)
theorem tX11_isWay {x : Int32} (h : Q (b01 (0 ≤ x.toInt ∧ x.toInt < 3)) I L) : cI G l mX11_isWay (d + 1) [.int x] I L Q := by
  refine wX11_isWay_ok ?_
  unfold wX11_isWay
  repeat' refine ife (fun _ => ?_) (fun _ => ?_)
  all_goals refine ri ?_
  all_goals simp only [zlt, zle, zeq, zin, znat, zl_m2000000000, zl_m100, zl_m14, zl_m13, zl_m12, zl_m11, zl_m5, zl_m3, zl_m2, zl_m1, zl_0, zl_1, zl_2, zl_3, zl_4, zl_5, zl_6, zl_7, zl_8, zl_9, zl_10, zl_11, zl_12, zl_20, zl_24, zl_25, zl_26, zl_27, zl_28, zl_29, zl_30, zl_32, zl_33, zl_37, zl_38, zl_39, zl_40, zl_41, zl_42, zl_43, zl_45, zl_47, zl_48, zl_50, zl_57, zl_59, zl_60, zl_61, zl_62, zl_63, zl_70, zl_72, zl_80, zl_81, zl_96, zl_99, zl_103, zl_110, zl_117, zl_120, zl_121, zl_124, zl_126, zl_200, zl_255, zl_256, zl_999, zl_9999, zl_10000, zl_11000, zl_11033, zl_11126, zl_12000, zl_12345, zl_13000, zl_1000000000, zl_1103515245] at *
  all_goals first | (rw [b01_neg (by omega)] at h; exact h) | (rw [b01_pos (by omega)] at h; exact h)
theorem tX11_isSquare {x : Int32} (h : Q (b01 (0 ≤ x.toInt ∧ x.toInt < 24)) I L) : cI G l mX11_isSquare (d + 1) [.int x] I L Q := by
  refine wX11_isSquare_ok ?_
  unfold wX11_isSquare
  repeat' refine ife (fun _ => ?_) (fun _ => ?_)
  all_goals refine ri ?_
  all_goals simp only [zlt, zle, zeq, zin, znat, zl_m2000000000, zl_m100, zl_m14, zl_m13, zl_m12, zl_m11, zl_m5, zl_m3, zl_m2, zl_m1, zl_0, zl_1, zl_2, zl_3, zl_4, zl_5, zl_6, zl_7, zl_8, zl_9, zl_10, zl_11, zl_12, zl_20, zl_24, zl_25, zl_26, zl_27, zl_28, zl_29, zl_30, zl_32, zl_33, zl_37, zl_38, zl_39, zl_40, zl_41, zl_42, zl_43, zl_45, zl_47, zl_48, zl_50, zl_57, zl_59, zl_60, zl_61, zl_62, zl_63, zl_70, zl_72, zl_80, zl_81, zl_96, zl_99, zl_103, zl_110, zl_117, zl_120, zl_121, zl_124, zl_126, zl_200, zl_255, zl_256, zl_999, zl_9999, zl_10000, zl_11000, zl_11033, zl_11126, zl_12000, zl_12345, zl_13000, zl_1000000000, zl_1103515245] at *
  all_goals first | (rw [b01_neg (by omega)] at h; exact h) | (rw [b01_pos (by omega)] at h; exact h)
theorem tX11_isKind {x : Int32} (h : Q (b01 (0 ≤ x.toInt ∧ x.toInt < 8)) I L) : cI G l mX11_isKind (d + 1) [.int x] I L Q := by
  refine wX11_isKind_ok ?_
  unfold wX11_isKind
  repeat' refine ife (fun _ => ?_) (fun _ => ?_)
  all_goals refine ri ?_
  all_goals simp only [zlt, zle, zeq, zin, znat, zl_m2000000000, zl_m100, zl_m14, zl_m13, zl_m12, zl_m11, zl_m5, zl_m3, zl_m2, zl_m1, zl_0, zl_1, zl_2, zl_3, zl_4, zl_5, zl_6, zl_7, zl_8, zl_9, zl_10, zl_11, zl_12, zl_20, zl_24, zl_25, zl_26, zl_27, zl_28, zl_29, zl_30, zl_32, zl_33, zl_37, zl_38, zl_39, zl_40, zl_41, zl_42, zl_43, zl_45, zl_47, zl_48, zl_50, zl_57, zl_59, zl_60, zl_61, zl_62, zl_63, zl_70, zl_72, zl_80, zl_81, zl_96, zl_99, zl_103, zl_110, zl_117, zl_120, zl_121, zl_124, zl_126, zl_200, zl_255, zl_256, zl_999, zl_9999, zl_10000, zl_11000, zl_11033, zl_11126, zl_12000, zl_12345, zl_13000, zl_1000000000, zl_1103515245] at *
  all_goals first | (rw [b01_neg (by omega)] at h; exact h) | (rw [b01_pos (by omega)] at h; exact h)
theorem tX11_isGoer {x : Int32} (h : Q (b01 (0 ≤ x.toInt ∧ x.toInt < (I 1 1).toInt)) I L) : cI G l mX11_isGoer (d + 1) [.ref 0, .int x] I L Q := by
  refine wX11_isGoer_ok ?_
  unfold wX11_isGoer
  repeat' refine ife (fun _ => ?_) (fun _ => ?_)
  all_goals refine ri ?_
  all_goals simp only [zlt, zle, zeq, zin, znat, zl_m2000000000, zl_m100, zl_m14, zl_m13, zl_m12, zl_m11, zl_m5, zl_m3, zl_m2, zl_m1, zl_0, zl_1, zl_2, zl_3, zl_4, zl_5, zl_6, zl_7, zl_8, zl_9, zl_10, zl_11, zl_12, zl_20, zl_24, zl_25, zl_26, zl_27, zl_28, zl_29, zl_30, zl_32, zl_33, zl_37, zl_38, zl_39, zl_40, zl_41, zl_42, zl_43, zl_45, zl_47, zl_48, zl_50, zl_57, zl_59, zl_60, zl_61, zl_62, zl_63, zl_70, zl_72, zl_80, zl_81, zl_96, zl_99, zl_103, zl_110, zl_117, zl_120, zl_121, zl_124, zl_126, zl_200, zl_255, zl_256, zl_999, zl_9999, zl_10000, zl_11000, zl_11033, zl_11126, zl_12000, zl_12345, zl_13000, zl_1000000000, zl_1103515245] at *
  all_goals first | (rw [b01_neg (by omega)] at h; exact h) | (rw [b01_pos (by omega)] at h; exact h)
theorem tX7_has {n w : Int32} (h : Q (b01 (0 ≤ n.toInt ∧ ((0 ≤ w.toInt ∧ w.toInt < 4 ∧ n.toInt < 24) ∨ (4 ≤ w.toInt ∧ w.toInt < 8 ∧ n.toInt < (I 1 1).toInt) ∨ (w.toInt = 8 ∧ n.toInt = 0)))) I L) : cI G l mX7_has (d + 1) [.ref 1, .int n, .int w] I L Q := by
  refine wX7_has_ok ?_
  unfold wX7_has
  repeat' refine ife (fun _ => ?_) (fun _ => ?_)
  all_goals refine ri ?_
  all_goals simp only [zlt, zle, zeq, zin, znat, zl_m2000000000, zl_m100, zl_m14, zl_m13, zl_m12, zl_m11, zl_m5, zl_m3, zl_m2, zl_m1, zl_0, zl_1, zl_2, zl_3, zl_4, zl_5, zl_6, zl_7, zl_8, zl_9, zl_10, zl_11, zl_12, zl_20, zl_24, zl_25, zl_26, zl_27, zl_28, zl_29, zl_30, zl_32, zl_33, zl_37, zl_38, zl_39, zl_40, zl_41, zl_42, zl_43, zl_45, zl_47, zl_48, zl_50, zl_57, zl_59, zl_60, zl_61, zl_62, zl_63, zl_70, zl_72, zl_80, zl_81, zl_96, zl_99, zl_103, zl_110, zl_117, zl_120, zl_121, zl_124, zl_126, zl_200, zl_255, zl_256, zl_999, zl_9999, zl_10000, zl_11000, zl_11033, zl_11126, zl_12000, zl_12345, zl_13000, zl_1000000000, zl_1103515245] at *
  all_goals first | (rw [b01_neg (by omega)] at h; exact h) | (rw [b01_pos (by omega)] at h; exact h)
theorem tX12_within {x A B : Int64} (h : Q (b01 (A.toInt ≤ x.toInt ∧ x.toInt ≤ B.toInt)) I L) : cI G l mX12_within (d + 1) [.long x, .long A, .long B] I L Q := by
  refine wX12_within_ok ?_
  unfold wX12_within
  repeat' refine ife (fun _ => ?_) (fun _ => ?_)
  all_goals refine ri ?_
  all_goals simp only [lcmp_lt, lcmp_gt, Int64.lt_iff_toInt_lt] at *
  all_goals first | (rw [b01_neg (by omega)] at h; exact h) | (rw [b01_pos (by omega)] at h; exact h)
theorem tX12_win {x : Int32} {A B : Int64} {a b : Int} (ha : A.toInt = a) (hb : B.toInt = b) (h : Q (b01 (a ≤ x.toInt ∧ x.toInt ≤ b)) I L) : cI G l mX12_within (d + 1) [.long x.toInt64, .long A, .long B] I L Q := by
  refine tX12_within ?_
  rw [z64, ha, hb]
  exact h
theorem tX12_isShelf {x : Int32} (h : Q (b01 (0 ≤ x.toInt ∧ x.toInt < 6)) I L) : cI G l mX12_isShelf (d + 2) [.int x] I L Q := by
  refine wX12_isShelf_ok ?_
  unfold wX12_isShelf
  refine tX12_within ⟨b01_or, ri ?_⟩
  rw [z64, show (0 : Int64).toInt = 0 by decide, show (5 : Int64).toInt = 5 by decide, b01_iff (q := 0 ≤ x.toInt ∧ x.toInt < 6) (by omega)]
  exact h
theorem tX12_isWay {y : Int64} (h : Q (b01 (0 ≤ y.toInt ∧ y.toInt < 3)) I L) : cI G l mX12_isWay (d + 2) [.long y] I L Q := by
  refine wX12_isWay_ok ?_
  unfold wX12_isWay
  refine tX12_within ⟨b01_or, ri ?_⟩
  rw [show (0 : Int64).toInt = 0 by decide, show (2 : Int64).toInt = 2 by decide, b01_iff (q := 0 ≤ y.toInt ∧ y.toInt < 3) (by omega)]
  exact h
theorem tX12_isSquare {x : Int32} (h : Q (b01 (0 ≤ x.toInt ∧ x.toInt < 24)) I L) : cI G l mX12_isSquare (d + 2) [.int x] I L Q := by
  refine wX12_isSquare_ok ?_
  unfold wX12_isSquare
  refine tX12_within ⟨b01_or, ri ?_⟩
  rw [z64, show (0 : Int64).toInt = 0 by decide, show (23 : Int64).toInt = 23 by decide, b01_iff (q := 0 ≤ x.toInt ∧ x.toInt < 24) (by omega)]
  exact h
theorem tX12_isGoer {y : Int64} (hg : 0 ≤ (I 71 6).toInt) (h : Q (b01 (0 ≤ y.toInt ∧ y.toInt < (I 71 6).toInt)) I L) : cI G l mX12_isGoer (d + 2) [.ref 71, .long y] I L Q := by
  refine wX12_isGoer_ok ?_
  unfold wX12_isGoer
  refine tX12_within ⟨b01_or, ri ?_⟩
  have hr := zrange (I 71 6)
  rw [z64, show (0 : Int64).toInt = 0 by decide, zsub (by rw [zl_1]; omega) (by rw [zl_1]; omega), zl_1, b01_iff (q := 0 ≤ y.toInt ∧ y.toInt < (I 71 6).toInt) (by omega)]
  exact h
theorem tX12_isBody {x : Int32} (hg : 0 ≤ (I 71 43).toInt) (h : Q (b01 (0 ≤ x.toInt ∧ x.toInt < (I 71 43).toInt)) I L) : cI G l mX12_isBody (d + 2) [.ref 71, .int x] I L Q := by
  refine wX12_isBody_ok ?_
  unfold wX12_isBody
  refine tX12_within ⟨b01_or, ri ?_⟩
  have hr := zrange (I 71 43)
  rw [z64, z64, show (0 : Int64).toInt = 0 by decide, zsub (by rw [zl_1]; omega) (by rw [zl_1]; omega), zl_1, b01_iff (q := 0 ≤ x.toInt ∧ x.toInt < (I 71 43).toInt) (by omega)]
  exact h
theorem tX12_less {x y : Int32} (h : Q (if y < x then x - y else 0) I L) : cI G l mX12_less (d + 1) [.int x, .int y] I L Q := by
  refine wX12_less_ok ?_
  unfold wX12_less
  refine ife (fun c => ri ?_) (fun c => ri ?_)
  · rw [if_neg (by rw [zlt]; rw [zle] at c; omega)] at h; exact h
  · rw [if_pos (by rw [zlt]; rw [zle] at c; omega)] at h; exact h
theorem tX7_allows {w v : Int32} (hst : jSt G) (h : Q (b01 (0 ≤ w.toInt ∧ w.toInt ≤ 8 ∧ (jsl2.getD w.toInt.toNat 0).toInt ≤ v.toInt ∧ v.toInt ≤ (jsl3.getD w.toInt.toNat 0).toInt)) I L) : cI G l mX7_allows (d + 1) [.ref 1, .int w, .int v] I L Q := by
  refine wX7_allows_ok ?_
  unfold wX7_allows
  rw [hst.2.1, hst.2.2.1]
  refine ife (fun c => ri ?_) (fun c => ife (fun c2 => ri ?_) (fun c2 => ?_))
  · rw [zlt, z0] at c
    rw [b01_neg (by omega)] at h; exact h
  · rw [zlt, zl_8] at c2
    rw [b01_neg (by omega)] at h; exact h
  · rw [zlt, z0] at c
    rw [zlt, zl_8] at c2
    have hin : vp_in w 9 := by rw [zin]; omega
    refine ⟨hin, ife (fun c3 => ri ?_) (fun c3 => ⟨hin, ife (fun c4 => ri ?_) (fun c4 => ri ?_)⟩)⟩
    · simp only [zlt, znat] at c3
      rw [b01_neg (by omega)] at h; exact h
    · simp only [zlt, znat] at c4
      rw [b01_neg (by omega)] at h; exact h
    · simp only [zlt, znat] at c3 c4
      rw [b01_pos (by omega)] at h; exact h
theorem tX7_get {n w : Int32} (h : Q (if 0 ≤ w.toInt ∧ w.toInt ≤ 8 ∧ 0 ≤ n.toInt ∧ n.toInt < 24 then I (3 + w.toInt.toNat) n.toInt.toNat else 0) I L) : cI G l mX7_get (d + 1) [.ref 1, .int n, .int w] I L Q := by
  refine wX7_get_ok ?_
  unfold wX7_get wX7_get_24 wX7_get_25
  rw [if_pos rfl, if_neg (show ¬ (1 : Int32) = 0 by decide)]
  refine ife (fun c => ri ?_) (fun c => ife (fun c2 => ri ?_) (fun c2 => ife (fun c3 => ri ?_) (fun c3 => ife (fun c4 => ri ?_) (fun c4 => ?_))))
  · rw [zlt, z0] at c
    rw [if_neg (by omega)] at h; exact h
  · rw [zlt, zl_8] at c2
    rw [if_neg (by omega)] at h; exact h
  · rw [zlt, z0] at c3
    rw [if_neg (by omega)] at h; exact h
  · rw [zle, zl_24] at c4
    rw [if_neg (by omega)] at h; exact h
  · rw [zlt, z0] at c c3
    rw [zlt, zl_8] at c2
    rw [zle, zl_24] at c4
    refine ⟨by rw [zin]; omega, by rw [zin]; omega, ri ?_⟩
    rw [if_pos (by omega)] at h
    exact h
end LF

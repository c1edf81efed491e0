theorem wa_int : Cond.arrayClass .int ∈ jWS := jw_t (i := 49) (by decide +kernel) (by decide +kernel)
theorem wa_long : Cond.arrayClass .long ∈ jWS := jw_t (i := 305) (by decide +kernel) (by decide +kernel)
theorem wa_boolean : Cond.arrayClass .boolean ∈ jWS := jw_t (i := 1196) (by decide +kernel) (by decide +kernel)
theorem wo_m : Cond.instanceMethod Lib.objectInit ∈ jWS := jw_t (i := 23) (by decide +kernel) (by decide +kernel)
theorem wo_c : Cond.code Lib.objectInit ⟨#[0xb1]⟩ 1 none ∈ jWS := jw_t (i := 24) (by decide +kernel) (by decide +kernel)
theorem im_L_9 : jIm RL 9 yX11_init cX11_init 1 0 := ⟨lk_L_9, wm_X11_init, wi_X11, wd_X11_init, ⟨by decide +kernel, by decide +kernel⟩, by decide +kernel, by decide, rfl⟩
theorem oi_X11_1 : Cond.methodLink RX11 1 Lib.objectInit ∈ jWS := jw_t (i := 22) (by decide +kernel) (by decide +kernel)
theorem im_X11_9 : jIm RX11 9 yX7_init cX7_init 2 0 := ⟨lk_X11_9, wm_X7_init, wi_X7, wd_X7_init, ⟨by decide +kernel, by decide +kernel⟩, by decide +kernel, by decide, rfl⟩
theorem oi_X7_3 : Cond.methodLink RX7 3 Lib.objectInit ∈ jWS := jw_t (i := 30) (by decide +kernel) (by decide +kernel)
theorem im_X11_18 : jIm RX11 18 yX2_init cX2_init 1 0 := ⟨lk_X11_18, wm_X2_init, wi_X2, wd_X2_init, ⟨by decide +kernel, by decide +kernel⟩, by decide +kernel, by decide, rfl⟩
theorem oi_X2_1 : Cond.methodLink RX2 1 Lib.objectInit ∈ jWS := jw_t (i := 55) (by decide +kernel) (by decide +kernel)
theorem im_X11_25 : jIm RX11 25 yX6_init cX6_init 1 0 := ⟨lk_X11_25, wm_X6_init, wi_X6, wd_X6_init, ⟨by decide +kernel, by decide +kernel⟩, by decide +kernel, by decide, rfl⟩
theorem oi_X6_1 : Cond.methodLink RX6 1 Lib.objectInit ∈ jWS := jw_t (i := 82) (by decide +kernel) (by decide +kernel)
theorem im_X11_32 : jIm RX11 32 yX3_init cX3_init 3 2 := ⟨lk_X11_32, wm_X3_init, wi_X3, wd_X3_init, ⟨by decide +kernel, by decide +kernel⟩, by decide +kernel, by decide, rfl⟩
theorem oi_X3_3 : Cond.methodLink RX3 3 Lib.objectInit ∈ jWS := jw_t (i := 120) (by decide +kernel) (by decide +kernel)
theorem im_X11_41 : jIm RX11 41 yX4_init cX4_init 1 0 := ⟨lk_X11_41, wm_X4_init, wi_X4, wd_X4_init, ⟨by decide +kernel, by decide +kernel⟩, by decide +kernel, by decide, rfl⟩
theorem oi_X4_3 : Cond.methodLink RX4 3 Lib.objectInit ∈ jWS := jw_t (i := 145) (by decide +kernel) (by decide +kernel)
theorem im_X4_11 : jIm RX4 11 yX5_init cX5_init 1 0 := ⟨lk_X4_11, wm_X5_init, wi_X5, wd_X5_init, ⟨by decide +kernel, by decide +kernel⟩, by decide +kernel, by decide, rfl⟩
theorem oi_X5_3 : Cond.methodLink RX5 3 Lib.objectInit ∈ jWS := jw_t (i := 151) (by decide +kernel) (by decide +kernel)
theorem im_X11_48 : jIm RX11 48 yX10_init cX10_init 3 2 := ⟨lk_X11_48, wm_X10_init, wi_X10, wd_X10_init, ⟨by decide +kernel, by decide +kernel⟩, by decide +kernel, by decide, rfl⟩
theorem oi_X10_3 : Cond.methodLink RX10 3 Lib.objectInit ∈ jWS := jw_t (i := 195) (by decide +kernel) (by decide +kernel)
theorem im_X10_21 : jIm RX10 21 yX5_init cX5_init 1 0 := ⟨lk_X10_21, wm_X5_init, wi_X5, wd_X5_init, ⟨by decide +kernel, by decide +kernel⟩, by decide +kernel, by decide, rfl⟩
theorem im_X11_57 : jIm RX11 57 yX8_init cX8_init 3 2 := ⟨lk_X11_57, wm_X8_init, wi_X8, wd_X8_init, ⟨by decide +kernel, by decide +kernel⟩, by decide +kernel, by decide, rfl⟩
theorem oi_X8_3 : Cond.methodLink RX8 3 Lib.objectInit ∈ jWS := jw_t (i := 233) (by decide +kernel) (by decide +kernel)
theorem im_X8_21 : jIm RX8 21 yX5_init cX5_init 1 0 := ⟨lk_X8_21, wm_X5_init, wi_X5, wd_X5_init, ⟨by decide +kernel, by decide +kernel⟩, by decide +kernel, by decide, rfl⟩
theorem im_X11_64 : jIm RX11 64 yX1_init cX1_init 3 2 := ⟨lk_X11_64, wm_X1_init, wi_X1, wd_X1_init, ⟨by decide +kernel, by decide +kernel⟩, by decide +kernel, by decide, rfl⟩
theorem oi_X1_3 : Cond.methodLink RX1 3 Lib.objectInit ∈ jWS := jw_t (i := 264) (by decide +kernel) (by decide +kernel)
theorem im_X1_21 : jIm RX1 21 yX5_init cX5_init 1 0 := ⟨lk_X1_21, wm_X5_init, wi_X5, wd_X5_init, ⟨by decide +kernel, by decide +kernel⟩, by decide +kernel, by decide, rfl⟩
theorem im_X11_71 : jIm RX11 71 yX9_init cX9_init 1 0 := ⟨lk_X11_71, wm_X9_init, wi_X9, wd_X9_init, ⟨by decide +kernel, by decide +kernel⟩, by decide +kernel, by decide, rfl⟩
theorem oi_X9_3 : Cond.methodLink RX9 3 Lib.objectInit ∈ jWS := jw_t (i := 288) (by decide +kernel) (by decide +kernel)
theorem im_X11_78 : jIm RX11 78 yX0_init cX0_init 1 0 := ⟨lk_X11_78, wm_X0_init, wi_X0, wd_X0_init, ⟨by decide +kernel, by decide +kernel⟩, by decide +kernel, by decide, rfl⟩
theorem oi_X0_3 : Cond.methodLink RX0 3 Lib.objectInit ∈ jWS := jw_t (i := 311) (by decide +kernel) (by decide +kernel)
theorem im_L_12 : jIm RL 12 yX12_init cX12_init 2 0 := ⟨lk_L_12, wm_X12_init, wi_X12, wd_X12_init, ⟨by decide +kernel, by decide +kernel⟩, by decide +kernel, by decide, rfl⟩
theorem oi_X12_5 : Cond.methodLink RX12 5 Lib.objectInit ∈ jWS := jw_t (i := 1035) (by decide +kernel) (by decide +kernel)
theorem cl_L_7 : Cond.classLink RL 7 RX11 ∈ jWS := jw_t (i := 17) (by decide +kernel) (by decide +kernel)
theorem cl_X11_7 : Cond.classLink RX11 7 RX7 ∈ jWS := jw_t (i := 25) (by decide +kernel) (by decide +kernel)
theorem cl_X7_9 : Cond.classLink RX7 9 "[[I" ∈ jWS := jw_t (i := 31) (by decide +kernel) (by decide +kernel)
theorem cl_X11_16 : Cond.classLink RX11 16 RX2 ∈ jWS := jw_t (i := 50) (by decide +kernel) (by decide +kernel)
theorem cl_X11_23 : Cond.classLink RX11 23 RX6 ∈ jWS := jw_t (i := 77) (by decide +kernel) (by decide +kernel)
theorem cl_X11_30 : Cond.classLink RX11 30 RX3 ∈ jWS := jw_t (i := 115) (by decide +kernel) (by decide +kernel)
theorem cl_X11_39 : Cond.classLink RX11 39 RX4 ∈ jWS := jw_t (i := 140) (by decide +kernel) (by decide +kernel)
theorem cl_X4_9 : Cond.classLink RX4 9 RX5 ∈ jWS := jw_t (i := 146) (by decide +kernel) (by decide +kernel)
theorem cl_X11_46 : Cond.classLink RX11 46 RX10 ∈ jWS := jw_t (i := 190) (by decide +kernel) (by decide +kernel)
theorem cl_X10_19 : Cond.classLink RX10 19 RX5 ∈ jWS := jw_t (i := 196) (by decide +kernel) (by decide +kernel)
theorem cl_X11_55 : Cond.classLink RX11 55 RX8 ∈ jWS := jw_t (i := 228) (by decide +kernel) (by decide +kernel)
theorem cl_X8_19 : Cond.classLink RX8 19 RX5 ∈ jWS := jw_t (i := 234) (by decide +kernel) (by decide +kernel)
theorem cl_X8_26 : Cond.classLink RX8 26 "[[I" ∈ jWS := jw_t (i := 236) (by decide +kernel) (by decide +kernel)
theorem cl_X11_62 : Cond.classLink RX11 62 RX1 ∈ jWS := jw_t (i := 259) (by decide +kernel) (by decide +kernel)
theorem cl_X1_19 : Cond.classLink RX1 19 RX5 ∈ jWS := jw_t (i := 265) (by decide +kernel) (by decide +kernel)
theorem cl_X11_69 : Cond.classLink RX11 69 RX9 ∈ jWS := jw_t (i := 283) (by decide +kernel) (by decide +kernel)
theorem cl_X9_21 : Cond.classLink RX9 21 "[[J" ∈ jWS := jw_t (i := 289) (by decide +kernel) (by decide +kernel)
theorem cl_X11_76 : Cond.classLink RX11 76 RX0 ∈ jWS := jw_t (i := 306) (by decide +kernel) (by decide +kernel)
theorem cl_L_10 : Cond.classLink RL 10 RX12 ∈ jWS := jw_t (i := 1030) (by decide +kernel) (by decide +kernel)
theorem in_X0 : Cond.instantiable RX0 5 ∈ jWS := jw_t (i := 307) (by decide +kernel) (by decide +kernel)
theorem in_X1 : Cond.instantiable RX1 5 ∈ jWS := jw_t (i := 260) (by decide +kernel) (by decide +kernel)
theorem in_X2 : Cond.instantiable RX2 6 ∈ jWS := jw_t (i := 51) (by decide +kernel) (by decide +kernel)
theorem in_X3 : Cond.instantiable RX3 6 ∈ jWS := jw_t (i := 116) (by decide +kernel) (by decide +kernel)
theorem in_X4 : Cond.instantiable RX4 6 ∈ jWS := jw_t (i := 141) (by decide +kernel) (by decide +kernel)
theorem in_X5 : Cond.instantiable RX5 3 ∈ jWS := jw_t (i := 147) (by decide +kernel) (by decide +kernel)
theorem in_X6 : Cond.instantiable RX6 10 ∈ jWS := jw_t (i := 78) (by decide +kernel) (by decide +kernel)
theorem in_X7 : Cond.instantiable RX7 2 ∈ jWS := jw_t (i := 26) (by decide +kernel) (by decide +kernel)
theorem in_X8 : Cond.instantiable RX8 7 ∈ jWS := jw_t (i := 229) (by decide +kernel) (by decide +kernel)
theorem in_X9 : Cond.instantiable RX9 4 ∈ jWS := jw_t (i := 284) (by decide +kernel) (by decide +kernel)
theorem in_X10 : Cond.instantiable RX10 8 ∈ jWS := jw_t (i := 191) (by decide +kernel) (by decide +kernel)
theorem in_X11 : Cond.instantiable RX11 10 ∈ jWS := jw_t (i := 18) (by decide +kernel) (by decide +kernel)
theorem in_X12 : Cond.instantiable RX12 53 ∈ jWS := jw_t (i := 1031) (by decide +kernel) (by decide +kernel)
set_option maxRecDepth 100000 in
set_option maxHeartbeats 4000000 in
theorem df_X0 {G : jG} {I : jS} {L : jL} {R : jR} {n : Nat} (hI : I n = fun _ => 0) (hL : L n = fun _ => 0) (hR : R n = fun _ => none) : ∀ i, i < 5 → jsv G I L R n 0 i = defaultValue (tyX0 i) := by
  intro i hi
  match i, hi with
  | 0, _ => simp [jsv, jty, jTT, hI, hL, hR, va_rf, defaultValue, tyX0]
  | 1, _ => simp [jsv, jty, jTT, hI, hL, hR, va_rf, defaultValue, tyX0]
  | 2, _ => simp [jsv, jty, jTT, hI, hL, hR, va_rf, defaultValue, tyX0]
  | 3, _ => simp [jsv, jty, jTT, hI, hL, hR, va_rf, defaultValue, tyX0]
  | 4, _ => simp [jsv, jty, jTT, hI, hL, hR, va_rf, defaultValue, tyX0]
  | k + 5, h => exact absurd h (by omega)
set_option maxRecDepth 100000 in
set_option maxHeartbeats 4000000 in
theorem df_X1 {G : jG} {I : jS} {L : jL} {R : jR} {n : Nat} (hI : I n = fun _ => 0) (hL : L n = fun _ => 0) (hR : R n = fun _ => none) : ∀ i, i < 5 → jsv G I L R n 1 i = defaultValue (tyX1 i) := by
  intro i hi
  match i, hi with
  | 0, _ => simp [jsv, jty, jTT, hI, hL, hR, va_rf, defaultValue, tyX1]
  | 1, _ => simp [jsv, jty, jTT, hI, hL, hR, va_rf, defaultValue, tyX1]
  | 2, _ => simp [jsv, jty, jTT, hI, hL, hR, va_rf, defaultValue, tyX1]
  | 3, _ => simp [jsv, jty, jTT, hI, hL, hR, va_rf, defaultValue, tyX1]
  | 4, _ => simp [jsv, jty, jTT, hI, hL, hR, va_rf, defaultValue, tyX1]
  | k + 5, h => exact absurd h (by omega)
set_option maxRecDepth 100000 in
set_option maxHeartbeats 4000000 in
theorem df_X2 {G : jG} {I : jS} {L : jL} {R : jR} {n : Nat} (hI : I n = fun _ => 0) (hL : L n = fun _ => 0) (hR : R n = fun _ => none) : ∀ i, i < 6 → jsv G I L R n 2 i = defaultValue (tyX2 i) := by
  intro i hi
  match i, hi with
  | 0, _ => simp [jsv, jty, jTT, hI, hL, hR, va_rf, defaultValue, tyX2]
  | 1, _ => simp [jsv, jty, jTT, hI, hL, hR, va_rf, defaultValue, tyX2]
  | 2, _ => simp [jsv, jty, jTT, hI, hL, hR, va_rf, defaultValue, tyX2]
  | 3, _ => simp [jsv, jty, jTT, hI, hL, hR, va_rf, defaultValue, tyX2]
  | 4, _ => simp [jsv, jty, jTT, hI, hL, hR, va_rf, defaultValue, tyX2]
  | 5, _ => simp [jsv, jty, jTT, hI, hL, hR, va_rf, defaultValue, tyX2]
  | k + 6, h => exact absurd h (by omega)
set_option maxRecDepth 100000 in
set_option maxHeartbeats 4000000 in
theorem df_X3 {G : jG} {I : jS} {L : jL} {R : jR} {n : Nat} (hI : I n = fun _ => 0) (hL : L n = fun _ => 0) (hR : R n = fun _ => none) : ∀ i, i < 6 → jsv G I L R n 3 i = defaultValue (tyX3 i) := by
  intro i hi
  match i, hi with
  | 0, _ => simp [jsv, jty, jTT, hI, hL, hR, va_rf, defaultValue, tyX3]
  | 1, _ => simp [jsv, jty, jTT, hI, hL, hR, va_rf, defaultValue, tyX3]
  | 2, _ => simp [jsv, jty, jTT, hI, hL, hR, va_rf, defaultValue, tyX3]
  | 3, _ => simp [jsv, jty, jTT, hI, hL, hR, va_rf, defaultValue, tyX3]
  | 4, _ => simp [jsv, jty, jTT, hI, hL, hR, va_rf, defaultValue, tyX3]
  | 5, _ => simp [jsv, jty, jTT, hI, hL, hR, va_rf, defaultValue, tyX3]
  | k + 6, h => exact absurd h (by omega)
set_option maxRecDepth 100000 in
set_option maxHeartbeats 4000000 in
theorem df_X4 {G : jG} {I : jS} {L : jL} {R : jR} {n : Nat} (hI : I n = fun _ => 0) (hL : L n = fun _ => 0) (hR : R n = fun _ => none) : ∀ i, i < 6 → jsv G I L R n 4 i = defaultValue (tyX4 i) := by
  intro i hi
  match i, hi with
  | 0, _ => simp [jsv, jty, jTT, hI, hL, hR, va_rf, defaultValue, tyX4]
  | 1, _ => simp [jsv, jty, jTT, hI, hL, hR, va_rf, defaultValue, tyX4]
  | 2, _ => simp [jsv, jty, jTT, hI, hL, hR, va_rf, defaultValue, tyX4]
  | 3, _ => simp [jsv, jty, jTT, hI, hL, hR, va_rf, defaultValue, tyX4]
  | 4, _ => simp [jsv, jty, jTT, hI, hL, hR, va_rf, defaultValue, tyX4]
  | 5, _ => simp [jsv, jty, jTT, hI, hL, hR, va_rf, defaultValue, tyX4]
  | k + 6, h => exact absurd h (by omega)
set_option maxRecDepth 100000 in
set_option maxHeartbeats 4000000 in
theorem df_X5 {G : jG} {I : jS} {L : jL} {R : jR} {n : Nat} (hI : I n = fun _ => 0) (hL : L n = fun _ => 0) (hR : R n = fun _ => none) : ∀ i, i < 3 → jsv G I L R n 5 i = defaultValue (tyX5 i) := by
  intro i hi
  match i, hi with
  | 0, _ => simp [jsv, jty, jTT, hI, hL, hR, va_rf, defaultValue, tyX5]
  | 1, _ => simp [jsv, jty, jTT, hI, hL, hR, va_rf, defaultValue, tyX5]
  | 2, _ => simp [jsv, jty, jTT, hI, hL, hR, va_rf, defaultValue, tyX5]
  | k + 3, h => exact absurd h (by omega)
set_option maxRecDepth 100000 in
set_option maxHeartbeats 4000000 in
theorem df_X6 {G : jG} {I : jS} {L : jL} {R : jR} {n : Nat} (hI : I n = fun _ => 0) (hL : L n = fun _ => 0) (hR : R n = fun _ => none) : ∀ i, i < 10 → jsv G I L R n 6 i = defaultValue (tyX6 i) := by
  intro i hi
  match i, hi with
  | 0, _ => simp [jsv, jty, jTT, hI, hL, hR, va_rf, defaultValue, tyX6]
  | 1, _ => simp [jsv, jty, jTT, hI, hL, hR, va_rf, defaultValue, tyX6]
  | 2, _ => simp [jsv, jty, jTT, hI, hL, hR, va_rf, defaultValue, tyX6]
  | 3, _ => simp [jsv, jty, jTT, hI, hL, hR, va_rf, defaultValue, tyX6]
  | 4, _ => simp [jsv, jty, jTT, hI, hL, hR, va_rf, defaultValue, tyX6]
  | 5, _ => simp [jsv, jty, jTT, hI, hL, hR, va_rf, defaultValue, tyX6]
  | 6, _ => simp [jsv, jty, jTT, hI, hL, hR, va_rf, defaultValue, tyX6]
  | 7, _ => simp [jsv, jty, jTT, hI, hL, hR, va_rf, defaultValue, tyX6]
  | 8, _ => simp [jsv, jty, jTT, hI, hL, hR, va_rf, defaultValue, tyX6]
  | 9, _ => simp [jsv, jty, jTT, hI, hL, hR, va_rf, defaultValue, tyX6]
  | k + 10, h => exact absurd h (by omega)
set_option maxRecDepth 100000 in
set_option maxHeartbeats 4000000 in
theorem df_X7 {G : jG} {I : jS} {L : jL} {R : jR} {n : Nat} (hI : I n = fun _ => 0) (hL : L n = fun _ => 0) (hR : R n = fun _ => none) : ∀ i, i < 2 → jsv G I L R n 7 i = defaultValue (tyX7 i) := by
  intro i hi
  match i, hi with
  | 0, _ => simp [jsv, jty, jTT, hI, hL, hR, va_rf, defaultValue, tyX7]
  | 1, _ => simp [jsv, jty, jTT, hI, hL, hR, va_rf, defaultValue, tyX7]
  | k + 2, h => exact absurd h (by omega)
set_option maxRecDepth 100000 in
set_option maxHeartbeats 4000000 in
theorem df_X8 {G : jG} {I : jS} {L : jL} {R : jR} {n : Nat} (hI : I n = fun _ => 0) (hL : L n = fun _ => 0) (hR : R n = fun _ => none) : ∀ i, i < 7 → jsv G I L R n 8 i = defaultValue (tyX8 i) := by
  intro i hi
  match i, hi with
  | 0, _ => simp [jsv, jty, jTT, hI, hL, hR, va_rf, defaultValue, tyX8]
  | 1, _ => simp [jsv, jty, jTT, hI, hL, hR, va_rf, defaultValue, tyX8]
  | 2, _ => simp [jsv, jty, jTT, hI, hL, hR, va_rf, defaultValue, tyX8]
  | 3, _ => simp [jsv, jty, jTT, hI, hL, hR, va_rf, defaultValue, tyX8]
  | 4, _ => simp [jsv, jty, jTT, hI, hL, hR, va_rf, defaultValue, tyX8]
  | 5, _ => simp [jsv, jty, jTT, hI, hL, hR, va_rf, defaultValue, tyX8]
  | 6, _ => simp [jsv, jty, jTT, hI, hL, hR, va_rf, defaultValue, tyX8]
  | k + 7, h => exact absurd h (by omega)
set_option maxRecDepth 100000 in
set_option maxHeartbeats 4000000 in
theorem df_X9 {G : jG} {I : jS} {L : jL} {R : jR} {n : Nat} (hI : I n = fun _ => 0) (hL : L n = fun _ => 0) (hR : R n = fun _ => none) : ∀ i, i < 4 → jsv G I L R n 9 i = defaultValue (tyX9 i) := by
  intro i hi
  match i, hi with
  | 0, _ => simp [jsv, jty, jTT, hI, hL, hR, va_rf, defaultValue, tyX9]
  | 1, _ => simp [jsv, jty, jTT, hI, hL, hR, va_rf, defaultValue, tyX9]
  | 2, _ => simp [jsv, jty, jTT, hI, hL, hR, va_rf, defaultValue, tyX9]
  | 3, _ => simp [jsv, jty, jTT, hI, hL, hR, va_rf, defaultValue, tyX9]
  | k + 4, h => exact absurd h (by omega)
set_option maxRecDepth 100000 in
set_option maxHeartbeats 4000000 in
theorem df_X10 {G : jG} {I : jS} {L : jL} {R : jR} {n : Nat} (hI : I n = fun _ => 0) (hL : L n = fun _ => 0) (hR : R n = fun _ => none) : ∀ i, i < 8 → jsv G I L R n 10 i = defaultValue (tyX10 i) := by
  intro i hi
  match i, hi with
  | 0, _ => simp [jsv, jty, jTT, hI, hL, hR, va_rf, defaultValue, tyX10]
  | 1, _ => simp [jsv, jty, jTT, hI, hL, hR, va_rf, defaultValue, tyX10]
  | 2, _ => simp [jsv, jty, jTT, hI, hL, hR, va_rf, defaultValue, tyX10]
  | 3, _ => simp [jsv, jty, jTT, hI, hL, hR, va_rf, defaultValue, tyX10]
  | 4, _ => simp [jsv, jty, jTT, hI, hL, hR, va_rf, defaultValue, tyX10]
  | 5, _ => simp [jsv, jty, jTT, hI, hL, hR, va_rf, defaultValue, tyX10]
  | 6, _ => simp [jsv, jty, jTT, hI, hL, hR, va_rf, defaultValue, tyX10]
  | 7, _ => simp [jsv, jty, jTT, hI, hL, hR, va_rf, defaultValue, tyX10]
  | k + 8, h => exact absurd h (by omega)
set_option maxRecDepth 100000 in
set_option maxHeartbeats 4000000 in
theorem df_X11 {G : jG} {I : jS} {L : jL} {R : jR} {n : Nat} (hI : I n = fun _ => 0) (hL : L n = fun _ => 0) (hR : R n = fun _ => none) : ∀ i, i < 10 → jsv G I L R n 11 i = defaultValue (tyX11 i) := by
  intro i hi
  match i, hi with
  | 0, _ => simp [jsv, jty, jTT, hI, hL, hR, va_rf, defaultValue, tyX11]
  | 1, _ => simp [jsv, jty, jTT, hI, hL, hR, va_rf, defaultValue, tyX11]
  | 2, _ => simp [jsv, jty, jTT, hI, hL, hR, va_rf, defaultValue, tyX11]
  | 3, _ => simp [jsv, jty, jTT, hI, hL, hR, va_rf, defaultValue, tyX11]
  | 4, _ => simp [jsv, jty, jTT, hI, hL, hR, va_rf, defaultValue, tyX11]
  | 5, _ => simp [jsv, jty, jTT, hI, hL, hR, va_rf, defaultValue, tyX11]
  | 6, _ => simp [jsv, jty, jTT, hI, hL, hR, va_rf, defaultValue, tyX11]
  | 7, _ => simp [jsv, jty, jTT, hI, hL, hR, va_rf, defaultValue, tyX11]
  | 8, _ => simp [jsv, jty, jTT, hI, hL, hR, va_rf, defaultValue, tyX11]
  | 9, _ => simp [jsv, jty, jTT, hI, hL, hR, va_rf, defaultValue, tyX11]
  | k + 10, h => exact absurd h (by omega)
set_option maxRecDepth 100000 in
set_option maxHeartbeats 4000000 in
theorem df_X12 {G : jG} {I : jS} {L : jL} {R : jR} {n : Nat} (hI : I n = fun _ => 0) (hL : L n = fun _ => 0) (hR : R n = fun _ => none) : ∀ i, i < 53 → jsv G I L R n 12 i = defaultValue (tyX12 i) := by
  intro i hi
  match i, hi with
  | 0, _ => simp [jsv, jty, jTT, hI, hL, hR, va_rf, defaultValue, tyX12]
  | 1, _ => simp [jsv, jty, jTT, hI, hL, hR, va_rf, defaultValue, tyX12]
  | 2, _ => simp [jsv, jty, jTT, hI, hL, hR, va_rf, defaultValue, tyX12]
  | 3, _ => simp [jsv, jty, jTT, hI, hL, hR, va_rf, defaultValue, tyX12]
  | 4, _ => simp [jsv, jty, jTT, hI, hL, hR, va_rf, defaultValue, tyX12]
  | 5, _ => simp [jsv, jty, jTT, hI, hL, hR, va_rf, defaultValue, tyX12]
  | 6, _ => simp [jsv, jty, jTT, hI, hL, hR, va_rf, defaultValue, tyX12]
  | 7, _ => simp [jsv, jty, jTT, hI, hL, hR, va_rf, defaultValue, tyX12]
  | 8, _ => simp [jsv, jty, jTT, hI, hL, hR, va_rf, defaultValue, tyX12]
  | 9, _ => simp [jsv, jty, jTT, hI, hL, hR, va_rf, defaultValue, tyX12]
  | 10, _ => simp [jsv, jty, jTT, hI, hL, hR, va_rf, defaultValue, tyX12]
  | 11, _ => simp [jsv, jty, jTT, hI, hL, hR, va_rf, defaultValue, tyX12]
  | 12, _ => simp [jsv, jty, jTT, hI, hL, hR, va_rf, defaultValue, tyX12]
  | 13, _ => simp [jsv, jty, jTT, hI, hL, hR, va_rf, defaultValue, tyX12]
  | 14, _ => simp [jsv, jty, jTT, hI, hL, hR, va_rf, defaultValue, tyX12]
  | 15, _ => simp [jsv, jty, jTT, hI, hL, hR, va_rf, defaultValue, tyX12]
  | 16, _ => simp [jsv, jty, jTT, hI, hL, hR, va_rf, defaultValue, tyX12]
  | 17, _ => simp [jsv, jty, jTT, hI, hL, hR, va_rf, defaultValue, tyX12]
  | 18, _ => simp [jsv, jty, jTT, hI, hL, hR, va_rf, defaultValue, tyX12]
  | 19, _ => simp [jsv, jty, jTT, hI, hL, hR, va_rf, defaultValue, tyX12]
  | 20, _ => simp [jsv, jty, jTT, hI, hL, hR, va_rf, defaultValue, tyX12]
  | 21, _ => simp [jsv, jty, jTT, hI, hL, hR, va_rf, defaultValue, tyX12]
  | 22, _ => simp [jsv, jty, jTT, hI, hL, hR, va_rf, defaultValue, tyX12]
  | 23, _ => simp [jsv, jty, jTT, hI, hL, hR, va_rf, defaultValue, tyX12]
  | 24, _ => simp [jsv, jty, jTT, hI, hL, hR, va_rf, defaultValue, tyX12]
  | 25, _ => simp [jsv, jty, jTT, hI, hL, hR, va_rf, defaultValue, tyX12]
  | 26, _ => simp [jsv, jty, jTT, hI, hL, hR, va_rf, defaultValue, tyX12]
  | 27, _ => simp [jsv, jty, jTT, hI, hL, hR, va_rf, defaultValue, tyX12]
  | 28, _ => simp [jsv, jty, jTT, hI, hL, hR, va_rf, defaultValue, tyX12]
  | 29, _ => simp [jsv, jty, jTT, hI, hL, hR, va_rf, defaultValue, tyX12]
  | 30, _ => simp [jsv, jty, jTT, hI, hL, hR, va_rf, defaultValue, tyX12]
  | 31, _ => simp [jsv, jty, jTT, hI, hL, hR, va_rf, defaultValue, tyX12]
  | 32, _ => simp [jsv, jty, jTT, hI, hL, hR, va_rf, defaultValue, tyX12]
  | 33, _ => simp [jsv, jty, jTT, hI, hL, hR, va_rf, defaultValue, tyX12]
  | 34, _ => simp [jsv, jty, jTT, hI, hL, hR, va_rf, defaultValue, tyX12]
  | 35, _ => simp [jsv, jty, jTT, hI, hL, hR, va_rf, defaultValue, tyX12]
  | 36, _ => simp [jsv, jty, jTT, hI, hL, hR, va_rf, defaultValue, tyX12]
  | 37, _ => simp [jsv, jty, jTT, hI, hL, hR, va_rf, defaultValue, tyX12]
  | 38, _ => simp [jsv, jty, jTT, hI, hL, hR, va_rf, defaultValue, tyX12]
  | 39, _ => simp [jsv, jty, jTT, hI, hL, hR, va_rf, defaultValue, tyX12]
  | 40, _ => simp [jsv, jty, jTT, hI, hL, hR, va_rf, defaultValue, tyX12]
  | 41, _ => simp [jsv, jty, jTT, hI, hL, hR, va_rf, defaultValue, tyX12]
  | 42, _ => simp [jsv, jty, jTT, hI, hL, hR, va_rf, defaultValue, tyX12]
  | 43, _ => simp [jsv, jty, jTT, hI, hL, hR, va_rf, defaultValue, tyX12]
  | 44, _ => simp [jsv, jty, jTT, hI, hL, hR, va_rf, defaultValue, tyX12]
  | 45, _ => simp [jsv, jty, jTT, hI, hL, hR, va_rf, defaultValue, tyX12]
  | 46, _ => simp [jsv, jty, jTT, hI, hL, hR, va_rf, defaultValue, tyX12]
  | 47, _ => simp [jsv, jty, jTT, hI, hL, hR, va_rf, defaultValue, tyX12]
  | 48, _ => simp [jsv, jty, jTT, hI, hL, hR, va_rf, defaultValue, tyX12]
  | 49, _ => simp [jsv, jty, jTT, hI, hL, hR, va_rf, defaultValue, tyX12]
  | 50, _ => simp [jsv, jty, jTT, hI, hL, hR, va_rf, defaultValue, tyX12]
  | 51, _ => simp [jsv, jty, jTT, hI, hL, hR, va_rf, defaultValue, tyX12]
  | 52, _ => simp [jsv, jty, jTT, hI, hL, hR, va_rf, defaultValue, tyX12]
  | k + 53, h => exact absurd h (by omega)
def jRin (r : Nat) : Nat → Option Nat := if r = 2 ∨ r = 41 ∨ r = 61 then jR0 r else fun _ => none
/-- nothing lies in the cells from n on -/
def jZ (n : Nat) (I : jS) (L : jL) (R : jR) : Prop := (∀ r, n ≤ r → I r = fun _ => 0) ∧ (∀ r, n ≤ r → L r = fun _ => 0) ∧ ∀ r, n ≤ r → R r = jRin r
theorem jZ.mono {n n' : Nat} {I : jS} {L : jL} {R : jR} (h : jZ n I L R) (hn : n ≤ n') : jZ n' I L R := ⟨fun r hr => h.1 r (Nat.le_trans hn hr), fun r hr => h.2.1 r (Nat.le_trans hn hr), fun r hr => h.2.2 r (Nat.le_trans hn hr)⟩
theorem jZ.u2 {n r i : Nat} {x : Int32} {I : jS} {L : jL} {R : jR} (h : jZ n I L R) (hr : r < n) : jZ n (u2 I r i x) L R := ⟨fun z hz => by rw [u2_ne z (by omega)]; exact h.1 z hz, h.2⟩
theorem jZ.u2R {n r i : Nat} {x : Option Nat} {I : jS} {L : jL} {R : jR} (h : jZ n I L R) (hr : r < n) : jZ n I L (u2R R r i x) := ⟨h.1, h.2.1, fun z hz => by rw [u2R_ne z (by omega)]; exact h.2.2 z hz⟩
theorem fl_ne {I : jS} {r k : Nat} {x : Int32} : ∀ z, z ≠ r → fl I r k x z = I z := fun z h => by simp [fl, h]
theorem jZ.fl {n r k : Nat} {x : Int32} {I : jS} {L : jL} {R : jR} (h : jZ n I L R) (hr : r < n) : jZ n (fl I r k x) L R := ⟨fun z hz => by rw [fl_ne z (by omega)]; exact h.1 z hz, h.2⟩
theorem u2Rn {I : jR} {r i r' j : Nat} {x : Option Nat} (h : r' ≠ r) : u2R I r i x r' j = I r' j := by rw [u2R_ne r' h]
theorem u2Re {I : jR} {r i : Nat} {x : Option Nat} : u2R I r i x r i = x := by simp [u2R, va_up]
theorem u2Ri {I : jR} {r i j : Nat} {x : Option Nat} (h : j ≠ i) : u2R I r i x r j = I r j := by simp [u2R, va_up, h]
theorem jk_take {n : Nat} {q : Nat × Nat} (h : jKS[n]? = some q) : jKS.take n ++ [q] = jKS.take (n + 1) := by rw [List.take_succ, h]; rfl
section JK
variable {G : jG} {l : Launch} {y : MethodName} {cc : ByteArray} {nL d mc ms pc : Nat} {ls : List (Option Value)} {st : List Value} {I : jS} {L : jL} {R : jR} {Q : Option Value → jW → Prop}
theorem jk_new {index ci N n : Nat} {C : String} {T : u_T} {ty : Nat → FieldType} (hq : jKS[n]? = some (ci, N)) (hc : jCl ci C T N ty) (h20 : ci < 20) (hlk : Cond.classLink y.cls index C ∈ jWS) (hins : Cond.instantiable C N ∈ jWS) (hini : Cond.initialized C ∈ jWS) (hn : (jKS.take n).length = n) (hN : n < jN) (h0 : ∀ i, i < N → jsv G I L R n ci i = defaultValue (ty i)) (hdg : decode cc pc = .ok (.new index, 3))
    (k : J G l y cc nL d mc ms (pc + 3) ls (.ref n :: st) (jKS.take (n + 1), I, L, R) Q) : J G l y cc nL d (1 + mc) (N + ms) pc ls st (jKS.take n, I, L, R) Q :=
  jr_new hc h20 hlk hins hini hn hN h0 hdg (by rw [jk_take hq]; exact k)
theorem jk_newarr_i {n : Int32} {N k0 : Nat} (hq : jKS[k0]? = some (20, N)) (hn : ¬ n < 0) (hN : n.toNatClampNeg = N) (hb : N ≤ 1000) (hk0 : (jKS.take k0).length = k0) (hlt : k0 < jN) (h0 : I k0 = fun _ => 0) (hdg : decode cc pc = .ok (.newarray .int, 2))
    (k : J G l y cc nL d mc ms (pc + 2) ls (.ref k0 :: st) (jKS.take (k0 + 1), I, L, R) Q) : J G l y cc nL d (1 + mc) (N + ms) pc ls (.int n :: st) (jKS.take k0, I, L, R) Q :=
  jr_newarr_i wa_int hn hN hb hk0 hlt h0 hdg (by rw [jk_take hq]; exact k)
theorem jk_newarr_l {n : Int32} {N k0 : Nat} (hq : jKS[k0]? = some (21, N)) (hn : ¬ n < 0) (hN : n.toNatClampNeg = N) (hb : N ≤ 1000) (hk0 : (jKS.take k0).length = k0) (hlt : k0 < jN) (h0 : L k0 = fun _ => 0) (hdg : decode cc pc = .ok (.newarray .long, 2))
    (k : J G l y cc nL d mc ms (pc + 2) ls (.ref k0 :: st) (jKS.take (k0 + 1), I, L, R) Q) : J G l y cc nL d (1 + mc) (N + ms) pc ls (.int n :: st) (jKS.take k0, I, L, R) Q :=
  jr_newarr_l wa_long hn hN hb hk0 hlt h0 hdg (by rw [jk_take hq]; exact k)
theorem jk_newarr_z {n : Int32} {N k0 : Nat} (hq : jKS[k0]? = some (24, N)) (hn : ¬ n < 0) (hN : n.toNatClampNeg = N) (hb : N ≤ 1000) (hk0 : (jKS.take k0).length = k0) (hlt : k0 < jN) (h0 : I k0 = fun _ => 0) (hdg : decode cc pc = .ok (.newarray .boolean, 2))
    (k : J G l y cc nL d mc ms (pc + 2) ls (.ref k0 :: st) (jKS.take (k0 + 1), I, L, R) Q) : J G l y cc nL d (1 + mc) (N + ms) pc ls (.int n :: st) (jKS.take k0, I, L, R) Q :=
  jr_newarr_z wa_boolean hn hN hb hk0 hlt h0 hdg (by rw [jk_take hq]; exact k)
end JK
theorem kbp_121 : (Int8.ofInt (121)).toInt32 = (121 : Int32) := by decide
theorem kbp_125 : (Int8.ofInt (125)).toInt32 = (125 : Int32) := by decide
theorem nn_10 : (10 : Int32).toNatClampNeg = 10 := by decide
theorem nn_11 : (11 : Int32).toNatClampNeg = 11 := by decide
theorem nn_12 : (12 : Int32).toNatClampNeg = 12 := by decide
theorem nn_120 : (120 : Int32).toNatClampNeg = 120 := by decide
theorem nn_121 : (121 : Int32).toNatClampNeg = 121 := by decide
theorem nn_125 : (125 : Int32).toNatClampNeg = 125 := by decide
theorem nn_13 : (13 : Int32).toNatClampNeg = 13 := by decide
theorem nn_14 : (14 : Int32).toNatClampNeg = 14 := by decide
theorem nn_15 : (15 : Int32).toNatClampNeg = 15 := by decide
theorem nn_16 : (16 : Int32).toNatClampNeg = 16 := by decide
theorem nn_17 : (17 : Int32).toNatClampNeg = 17 := by decide
theorem nn_18 : (18 : Int32).toNatClampNeg = 18 := by decide
theorem nn_19 : (19 : Int32).toNatClampNeg = 19 := by decide
theorem nn_20 : (20 : Int32).toNatClampNeg = 20 := by decide
theorem nn_21 : (21 : Int32).toNatClampNeg = 21 := by decide
theorem nn_22 : (22 : Int32).toNatClampNeg = 22 := by decide
theorem nn_23 : (23 : Int32).toNatClampNeg = 23 := by decide
theorem nn_256 : (256 : Int32).toNatClampNeg = 256 := by decide
theorem nn_30 : (30 : Int32).toNatClampNeg = 30 := by decide
theorem nn_31 : (31 : Int32).toNatClampNeg = 31 := by decide
theorem nn_32 : (32 : Int32).toNatClampNeg = 32 := by decide
theorem nn_33 : (33 : Int32).toNatClampNeg = 33 := by decide
theorem nn_34 : (34 : Int32).toNatClampNeg = 34 := by decide
theorem nn_35 : (35 : Int32).toNatClampNeg = 35 := by decide
theorem nn_36 : (36 : Int32).toNatClampNeg = 36 := by decide
theorem nn_360 : (360 : Int32).toNatClampNeg = 360 := by decide
theorem nn_37 : (37 : Int32).toNatClampNeg = 37 := by decide
theorem nn_38 : (38 : Int32).toNatClampNeg = 38 := by decide
theorem nn_39 : (39 : Int32).toNatClampNeg = 39 := by decide
theorem nn_40 : (40 : Int32).toNatClampNeg = 40 := by decide
theorem nn_41 : (41 : Int32).toNatClampNeg = 41 := by decide
theorem nn_42 : (42 : Int32).toNatClampNeg = 42 := by decide
theorem nn_43 : (43 : Int32).toNatClampNeg = 43 := by decide
theorem nn_44 : (44 : Int32).toNatClampNeg = 44 := by decide
theorem nn_45 : (45 : Int32).toNatClampNeg = 45 := by decide
theorem nn_46 : (46 : Int32).toNatClampNeg = 46 := by decide
theorem nn_47 : (47 : Int32).toNatClampNeg = 47 := by decide
theorem nn_50 : (50 : Int32).toNatClampNeg = 50 := by decide
theorem nn_6 : (6 : Int32).toNatClampNeg = 6 := by decide
theorem nn_60 : (60 : Int32).toNatClampNeg = 60 := by decide
theorem nn_7 : (7 : Int32).toNatClampNeg = 7 := by decide
theorem nn_72 : (72 : Int32).toNatClampNeg = 72 := by decide
theorem nn_73 : (73 : Int32).toNatClampNeg = 73 := by decide
theorem nn_74 : (74 : Int32).toNatClampNeg = 74 := by decide
theorem nn_75 : (75 : Int32).toNatClampNeg = 75 := by decide
theorem nn_76 : (76 : Int32).toNatClampNeg = 76 := by decide
theorem nn_77 : (77 : Int32).toNatClampNeg = 77 := by decide
theorem nn_78 : (78 : Int32).toNatClampNeg = 78 := by decide
theorem nn_79 : (79 : Int32).toNatClampNeg = 79 := by decide
theorem nn_8 : (8 : Int32).toNatClampNeg = 8 := by decide
theorem nn_80 : (80 : Int32).toNatClampNeg = 80 := by decide
theorem nn_81 : (81 : Int32).toNatClampNeg = 81 := by decide
theorem nn_82 : (82 : Int32).toNatClampNeg = 82 := by decide
theorem nn_83 : (83 : Int32).toNatClampNeg = 83 := by decide
theorem nn_84 : (84 : Int32).toNatClampNeg = 84 := by decide
theorem nn_85 : (85 : Int32).toNatClampNeg = 85 := by decide
theorem nn_86 : (86 : Int32).toNatClampNeg = 86 := by decide
theorem nn_87 : (87 : Int32).toNatClampNeg = 87 := by decide
theorem nn_88 : (88 : Int32).toNatClampNeg = 88 := by decide
theorem nn_89 : (89 : Int32).toNatClampNeg = 89 := by decide
theorem nn_9 : (9 : Int32).toNatClampNeg = 9 := by decide
theorem nn_90 : (90 : Int32).toNatClampNeg = 90 := by decide
theorem nn_91 : (91 : Int32).toNatClampNeg = 91 := by decide
theorem nn_92 : (92 : Int32).toNatClampNeg = 92 := by decide
theorem nn_93 : (93 : Int32).toNatClampNeg = 93 := by decide
theorem nn_94 : (94 : Int32).toNatClampNeg = 94 := by decide
theorem nn_95 : (95 : Int32).toNatClampNeg = 95 := by decide
theorem ksp_360 : (Int16.ofInt (360)).toInt32 = (360 : Int32) := by decide
theorem vin_0_125 : vp_in (0 : Int32) 125 := by unfold vp_in; decide
theorem vin_1_125 : vp_in (1 : Int32) 125 := by unfold vp_in; decide
theorem vin_1_9 : vp_in (1 : Int32) 9 := by unfold vp_in; decide
theorem vin_10_125 : vp_in (10 : Int32) 125 := by unfold vp_in; decide
theorem vin_11_125 : vp_in (11 : Int32) 125 := by unfold vp_in; decide
theorem vin_12_125 : vp_in (12 : Int32) 125 := by unfold vp_in; decide
theorem vin_13_125 : vp_in (13 : Int32) 125 := by unfold vp_in; decide
theorem vin_14_125 : vp_in (14 : Int32) 125 := by unfold vp_in; decide
theorem vin_15_125 : vp_in (15 : Int32) 125 := by unfold vp_in; decide
theorem vin_16_125 : vp_in (16 : Int32) 125 := by unfold vp_in; decide
theorem vin_17_125 : vp_in (17 : Int32) 125 := by unfold vp_in; decide
theorem vin_18_125 : vp_in (18 : Int32) 125 := by unfold vp_in; decide
theorem vin_19_125 : vp_in (19 : Int32) 125 := by unfold vp_in; decide
theorem vin_2_125 : vp_in (2 : Int32) 125 := by unfold vp_in; decide
theorem vin_2_9 : vp_in (2 : Int32) 9 := by unfold vp_in; decide
theorem vin_20_125 : vp_in (20 : Int32) 125 := by unfold vp_in; decide
theorem vin_21_125 : vp_in (21 : Int32) 125 := by unfold vp_in; decide
theorem vin_22_125 : vp_in (22 : Int32) 125 := by unfold vp_in; decide
theorem vin_23_125 : vp_in (23 : Int32) 125 := by unfold vp_in; decide
theorem vin_24_125 : vp_in (24 : Int32) 125 := by unfold vp_in; decide
theorem vin_25_125 : vp_in (25 : Int32) 125 := by unfold vp_in; decide
theorem vin_26_125 : vp_in (26 : Int32) 125 := by unfold vp_in; decide
theorem vin_27_125 : vp_in (27 : Int32) 125 := by unfold vp_in; decide
theorem vin_28_125 : vp_in (28 : Int32) 125 := by unfold vp_in; decide
theorem vin_29_125 : vp_in (29 : Int32) 125 := by unfold vp_in; decide
theorem vin_3_125 : vp_in (3 : Int32) 125 := by unfold vp_in; decide
theorem vin_3_9 : vp_in (3 : Int32) 9 := by unfold vp_in; decide
theorem vin_30_125 : vp_in (30 : Int32) 125 := by unfold vp_in; decide
theorem vin_31_125 : vp_in (31 : Int32) 125 := by unfold vp_in; decide
theorem vin_32_125 : vp_in (32 : Int32) 125 := by unfold vp_in; decide
theorem vin_33_125 : vp_in (33 : Int32) 125 := by unfold vp_in; decide
theorem vin_34_125 : vp_in (34 : Int32) 125 := by unfold vp_in; decide
theorem vin_35_125 : vp_in (35 : Int32) 125 := by unfold vp_in; decide
theorem vin_36_125 : vp_in (36 : Int32) 125 := by unfold vp_in; decide
theorem vin_37_125 : vp_in (37 : Int32) 125 := by unfold vp_in; decide
theorem vin_38_125 : vp_in (38 : Int32) 125 := by unfold vp_in; decide
theorem vin_39_125 : vp_in (39 : Int32) 125 := by unfold vp_in; decide
theorem vin_4_125 : vp_in (4 : Int32) 125 := by unfold vp_in; decide
theorem vin_4_9 : vp_in (4 : Int32) 9 := by unfold vp_in; decide
theorem vin_40_125 : vp_in (40 : Int32) 125 := by unfold vp_in; decide
theorem vin_41_125 : vp_in (41 : Int32) 125 := by unfold vp_in; decide
theorem vin_42_125 : vp_in (42 : Int32) 125 := by unfold vp_in; decide
theorem vin_43_125 : vp_in (43 : Int32) 125 := by unfold vp_in; decide
theorem vin_44_125 : vp_in (44 : Int32) 125 := by unfold vp_in; decide
theorem vin_45_125 : vp_in (45 : Int32) 125 := by unfold vp_in; decide
theorem vin_46_125 : vp_in (46 : Int32) 125 := by unfold vp_in; decide
theorem vin_47_125 : vp_in (47 : Int32) 125 := by unfold vp_in; decide
theorem vin_5_125 : vp_in (5 : Int32) 125 := by unfold vp_in; decide
theorem vin_5_9 : vp_in (5 : Int32) 9 := by unfold vp_in; decide
theorem vin_6_125 : vp_in (6 : Int32) 125 := by unfold vp_in; decide
theorem vin_6_9 : vp_in (6 : Int32) 9 := by unfold vp_in; decide
theorem vin_7_125 : vp_in (7 : Int32) 125 := by unfold vp_in; decide
theorem vin_7_9 : vp_in (7 : Int32) 9 := by unfold vp_in; decide
theorem vin_72_125 : vp_in (72 : Int32) 125 := by unfold vp_in; decide
theorem vin_73_125 : vp_in (73 : Int32) 125 := by unfold vp_in; decide
theorem vin_74_125 : vp_in (74 : Int32) 125 := by unfold vp_in; decide
theorem vin_75_125 : vp_in (75 : Int32) 125 := by unfold vp_in; decide
theorem vin_76_125 : vp_in (76 : Int32) 125 := by unfold vp_in; decide
theorem vin_77_125 : vp_in (77 : Int32) 125 := by unfold vp_in; decide
theorem vin_78_125 : vp_in (78 : Int32) 125 := by unfold vp_in; decide
theorem vin_79_125 : vp_in (79 : Int32) 125 := by unfold vp_in; decide
theorem vin_8_125 : vp_in (8 : Int32) 125 := by unfold vp_in; decide
theorem vin_8_9 : vp_in (8 : Int32) 9 := by unfold vp_in; decide
theorem vin_80_125 : vp_in (80 : Int32) 125 := by unfold vp_in; decide
theorem vin_81_125 : vp_in (81 : Int32) 125 := by unfold vp_in; decide
theorem vin_82_125 : vp_in (82 : Int32) 125 := by unfold vp_in; decide
theorem vin_83_125 : vp_in (83 : Int32) 125 := by unfold vp_in; decide
theorem vin_84_125 : vp_in (84 : Int32) 125 := by unfold vp_in; decide
theorem vin_85_125 : vp_in (85 : Int32) 125 := by unfold vp_in; decide
theorem vin_86_125 : vp_in (86 : Int32) 125 := by unfold vp_in; decide
theorem vin_87_125 : vp_in (87 : Int32) 125 := by unfold vp_in; decide
theorem vin_88_125 : vp_in (88 : Int32) 125 := by unfold vp_in; decide
theorem vin_89_125 : vp_in (89 : Int32) 125 := by unfold vp_in; decide
theorem vin_9_125 : vp_in (9 : Int32) 125 := by unfold vp_in; decide
theorem vin_90_125 : vp_in (90 : Int32) 125 := by unfold vp_in; decide
theorem vin_91_125 : vp_in (91 : Int32) 125 := by unfold vp_in; decide
theorem vin_92_125 : vp_in (92 : Int32) 125 := by unfold vp_in; decide
theorem vin_93_125 : vp_in (93 : Int32) 125 := by unfold vp_in; decide
theorem vin_94_125 : vp_in (94 : Int32) 125 := by unfold vp_in; decide
theorem vin_95_125 : vp_in (95 : Int32) 125 := by unfold vp_in; decide
def jFirst (i : Nat) : Int32 := ([30, 1, 0, 10, 1, 0, 5, 2, 999] : List Int32).getD i 0
/-- what the static array FIRST holds -/
def jFst (G : jG) : Prop := ∀ i, i < 9 → vp_in (Int32.ofNat i) (G.2.2.2.2 1).1 ∧ (G.2.2.2.2 1).2 i = jFirst i

theorem jw_t {w : Cond} {i : Nat} (h : tables_1[i]? = some w) (hg : goodWord w = true) : w ∈ jWS := jWS_of (List.mem_append_right _ (List.mem_of_getElem? h)) hg
theorem jw_p {w : Cond} {i : Nat} (h : (k2_sels lw_privs)[i]? = some w) (hg : goodWord w = true) : w ∈ jWS := jWS_of (List.mem_append_left _ (List.mem_of_getElem? h)) hg
theorem wi_L : Cond.initialized RL ∈ jWS := jw_t (i := 0) (by decide +kernel) (by decide +kernel)
theorem wi_X11 : Cond.initialized RX11 ∈ jWS := jw_t (i := 1) (by decide +kernel) (by decide +kernel)
theorem wi_X7 : Cond.initialized RX7 ∈ jWS := jw_t (i := 2) (by decide +kernel) (by decide +kernel)
theorem wi_J7 : Cond.initialized RJ7 ∈ jWS := jw_t (i := 3) (by decide +kernel) (by decide +kernel)
theorem wi_X2 : Cond.initialized RX2 ∈ jWS := jw_t (i := 4) (by decide +kernel) (by decide +kernel)
theorem wi_X6 : Cond.initialized RX6 ∈ jWS := jw_t (i := 5) (by decide +kernel) (by decide +kernel)
theorem wi_X3 : Cond.initialized RX3 ∈ jWS := jw_t (i := 6) (by decide +kernel) (by decide +kernel)
theorem wi_X4 : Cond.initialized RX4 ∈ jWS := jw_t (i := 7) (by decide +kernel) (by decide +kernel)
theorem wi_X5 : Cond.initialized RX5 ∈ jWS := jw_t (i := 8) (by decide +kernel) (by decide +kernel)
theorem wi_X10 : Cond.initialized RX10 ∈ jWS := jw_t (i := 9) (by decide +kernel) (by decide +kernel)
theorem wi_X8 : Cond.initialized RX8 ∈ jWS := jw_t (i := 10) (by decide +kernel) (by decide +kernel)
theorem wi_X1 : Cond.initialized RX1 ∈ jWS := jw_t (i := 11) (by decide +kernel) (by decide +kernel)
theorem wi_X9 : Cond.initialized RX9 ∈ jWS := jw_t (i := 12) (by decide +kernel) (by decide +kernel)
theorem wi_X0 : Cond.initialized RX0 ∈ jWS := jw_t (i := 13) (by decide +kernel) (by decide +kernel)
theorem wi_X12 : Cond.initialized RX12 ∈ jWS := jw_t (i := 14) (by decide +kernel) (by decide +kernel)
theorem wi_J10 : Cond.initialized RJ10 ∈ jWS := jw_t (i := 15) (by decide +kernel) (by decide +kernel)
theorem wi_J9 : Cond.initialized RJ9 ∈ jWS := jw_t (i := 16) (by decide +kernel) (by decide +kernel)
theorem wl_X0_0 : u_lay RX0 TX0 0 ∈ jWS := jw_t (i := 319) (by decide +kernel) (by decide +kernel)
theorem wl_X0_1 : u_lay RX0 TX0 1 ∈ jWS := jw_t (i := 321) (by decide +kernel) (by decide +kernel)
theorem wl_X0_2 : u_lay RX0 TX0 2 ∈ jWS := jw_t (i := 323) (by decide +kernel) (by decide +kernel)
theorem wl_X0_3 : u_lay RX0 TX0 3 ∈ jWS := jw_t (i := 325) (by decide +kernel) (by decide +kernel)
theorem wl_X0_4 : u_lay RX0 TX0 4 ∈ jWS := jw_t (i := 327) (by decide +kernel) (by decide +kernel)
theorem wc_X0 : jCl 0 RX0 TX0 5 tyX0 := ⟨rfl, fun w hw => by
  obtain ⟨k, hk, rfl⟩ := List.mem_map.mp hw
  have hk := List.mem_range.mp hk
  match k, hk with
  | 0, _ => exact wl_X0_0
  | 1, _ => exact wl_X0_1
  | 2, _ => exact wl_X0_2
  | 3, _ => exact wl_X0_3
  | 4, _ => exact wl_X0_4
  | n + 5, h => exact absurd h (by omega), tyX0_ok, nmX0⟩
theorem wl_X1_0 : u_lay RX1 TX1 0 ∈ jWS := jw_t (i := 272) (by decide +kernel) (by decide +kernel)
theorem wl_X1_1 : u_lay RX1 TX1 1 ∈ jWS := jw_t (i := 274) (by decide +kernel) (by decide +kernel)
theorem wl_X1_2 : u_lay RX1 TX1 2 ∈ jWS := jw_t (i := 276) (by decide +kernel) (by decide +kernel)
theorem wl_X1_3 : u_lay RX1 TX1 3 ∈ jWS := jw_t (i := 278) (by decide +kernel) (by decide +kernel)
theorem wl_X1_4 : u_lay RX1 TX1 4 ∈ jWS := jw_t (i := 280) (by decide +kernel) (by decide +kernel)
theorem wc_X1 : jCl 1 RX1 TX1 5 tyX1 := ⟨rfl, fun w hw => by
  obtain ⟨k, hk, rfl⟩ := List.mem_map.mp hw
  have hk := List.mem_range.mp hk
  match k, hk with
  | 0, _ => exact wl_X1_0
  | 1, _ => exact wl_X1_1
  | 2, _ => exact wl_X1_2
  | 3, _ => exact wl_X1_3
  | 4, _ => exact wl_X1_4
  | n + 5, h => exact absurd h (by omega), tyX1_ok, nmX1⟩
theorem wl_X2_0 : u_lay RX2 TX2 0 ∈ jWS := jw_t (i := 64) (by decide +kernel) (by decide +kernel)
theorem wl_X2_1 : u_lay RX2 TX2 1 ∈ jWS := jw_t (i := 66) (by decide +kernel) (by decide +kernel)
theorem wl_X2_2 : u_lay RX2 TX2 2 ∈ jWS := jw_t (i := 68) (by decide +kernel) (by decide +kernel)
theorem wl_X2_3 : u_lay RX2 TX2 3 ∈ jWS := jw_t (i := 70) (by decide +kernel) (by decide +kernel)
theorem wl_X2_4 : u_lay RX2 TX2 4 ∈ jWS := jw_t (i := 72) (by decide +kernel) (by decide +kernel)
theorem wl_X2_5 : u_lay RX2 TX2 5 ∈ jWS := jw_t (i := 74) (by decide +kernel) (by decide +kernel)
theorem wc_X2 : jCl 2 RX2 TX2 6 tyX2 := ⟨rfl, fun w hw => by
  obtain ⟨k, hk, rfl⟩ := List.mem_map.mp hw
  have hk := List.mem_range.mp hk
  match k, hk with
  | 0, _ => exact wl_X2_0
  | 1, _ => exact wl_X2_1
  | 2, _ => exact wl_X2_2
  | 3, _ => exact wl_X2_3
  | 4, _ => exact wl_X2_4
  | 5, _ => exact wl_X2_5
  | n + 6, h => exact absurd h (by omega), tyX2_ok, nmX2⟩
theorem wl_X3_0 : u_lay RX3 TX3 0 ∈ jWS := jw_t (i := 127) (by decide +kernel) (by decide +kernel)
theorem wl_X3_1 : u_lay RX3 TX3 1 ∈ jWS := jw_t (i := 129) (by decide +kernel) (by decide +kernel)
theorem wl_X3_2 : u_lay RX3 TX3 2 ∈ jWS := jw_t (i := 131) (by decide +kernel) (by decide +kernel)
theorem wl_X3_3 : u_lay RX3 TX3 3 ∈ jWS := jw_t (i := 133) (by decide +kernel) (by decide +kernel)
theorem wl_X3_4 : u_lay RX3 TX3 4 ∈ jWS := jw_t (i := 135) (by decide +kernel) (by decide +kernel)
theorem wl_X3_5 : u_lay RX3 TX3 5 ∈ jWS := jw_t (i := 137) (by decide +kernel) (by decide +kernel)
theorem wc_X3 : jCl 3 RX3 TX3 6 tyX3 := ⟨rfl, fun w hw => by
  obtain ⟨k, hk, rfl⟩ := List.mem_map.mp hw
  have hk := List.mem_range.mp hk
  match k, hk with
  | 0, _ => exact wl_X3_0
  | 1, _ => exact wl_X3_1
  | 2, _ => exact wl_X3_2
  | 3, _ => exact wl_X3_3
  | 4, _ => exact wl_X3_4
  | 5, _ => exact wl_X3_5
  | n + 6, h => exact absurd h (by omega), tyX3_ok, nmX3⟩
theorem wl_X4_0 : u_lay RX4 TX4 0 ∈ jWS := jw_t (i := 177) (by decide +kernel) (by decide +kernel)
theorem wl_X4_1 : u_lay RX4 TX4 1 ∈ jWS := jw_t (i := 179) (by decide +kernel) (by decide +kernel)
theorem wl_X4_2 : u_lay RX4 TX4 2 ∈ jWS := jw_t (i := 181) (by decide +kernel) (by decide +kernel)
theorem wl_X4_3 : u_lay RX4 TX4 3 ∈ jWS := jw_t (i := 183) (by decide +kernel) (by decide +kernel)
theorem wl_X4_4 : u_lay RX4 TX4 4 ∈ jWS := jw_t (i := 185) (by decide +kernel) (by decide +kernel)
theorem wl_X4_5 : u_lay RX4 TX4 5 ∈ jWS := jw_t (i := 187) (by decide +kernel) (by decide +kernel)
theorem wc_X4 : jCl 4 RX4 TX4 6 tyX4 := ⟨rfl, fun w hw => by
  obtain ⟨k, hk, rfl⟩ := List.mem_map.mp hw
  have hk := List.mem_range.mp hk
  match k, hk with
  | 0, _ => exact wl_X4_0
  | 1, _ => exact wl_X4_1
  | 2, _ => exact wl_X4_2
  | 3, _ => exact wl_X4_3
  | 4, _ => exact wl_X4_4
  | 5, _ => exact wl_X4_5
  | n + 6, h => exact absurd h (by omega), tyX4_ok, nmX4⟩
theorem wl_X5_0 : u_lay RX5 TX5 0 ∈ jWS := jw_t (i := 163) (by decide +kernel) (by decide +kernel)
theorem wl_X5_1 : u_lay RX5 TX5 1 ∈ jWS := jw_t (i := 165) (by decide +kernel) (by decide +kernel)
theorem wl_X5_2 : u_lay RX5 TX5 2 ∈ jWS := jw_t (i := 167) (by decide +kernel) (by decide +kernel)
theorem wc_X5 : jCl 5 RX5 TX5 3 tyX5 := ⟨rfl, fun w hw => by
  obtain ⟨k, hk, rfl⟩ := List.mem_map.mp hw
  have hk := List.mem_range.mp hk
  match k, hk with
  | 0, _ => exact wl_X5_0
  | 1, _ => exact wl_X5_1
  | 2, _ => exact wl_X5_2
  | n + 3, h => exact absurd h (by omega), tyX5_ok, nmX5⟩
theorem wl_X6_0 : u_lay RX6 TX6 0 ∈ jWS := jw_t (i := 94) (by decide +kernel) (by decide +kernel)
theorem wl_X6_1 : u_lay RX6 TX6 1 ∈ jWS := jw_t (i := 96) (by decide +kernel) (by decide +kernel)
theorem wl_X6_2 : u_lay RX6 TX6 2 ∈ jWS := jw_t (i := 98) (by decide +kernel) (by decide +kernel)
theorem wl_X6_3 : u_lay RX6 TX6 3 ∈ jWS := jw_t (i := 100) (by decide +kernel) (by decide +kernel)
theorem wl_X6_4 : u_lay RX6 TX6 4 ∈ jWS := jw_t (i := 102) (by decide +kernel) (by decide +kernel)
theorem wl_X6_5 : u_lay RX6 TX6 5 ∈ jWS := jw_t (i := 104) (by decide +kernel) (by decide +kernel)
theorem wl_X6_6 : u_lay RX6 TX6 6 ∈ jWS := jw_t (i := 106) (by decide +kernel) (by decide +kernel)
theorem wl_X6_7 : u_lay RX6 TX6 7 ∈ jWS := jw_t (i := 108) (by decide +kernel) (by decide +kernel)
theorem wl_X6_8 : u_lay RX6 TX6 8 ∈ jWS := jw_t (i := 110) (by decide +kernel) (by decide +kernel)
theorem wl_X6_9 : u_lay RX6 TX6 9 ∈ jWS := jw_t (i := 112) (by decide +kernel) (by decide +kernel)
theorem wc_X6 : jCl 6 RX6 TX6 10 tyX6 := ⟨rfl, fun w hw => by
  obtain ⟨k, hk, rfl⟩ := List.mem_map.mp hw
  have hk := List.mem_range.mp hk
  match k, hk with
  | 0, _ => exact wl_X6_0
  | 1, _ => exact wl_X6_1
  | 2, _ => exact wl_X6_2
  | 3, _ => exact wl_X6_3
  | 4, _ => exact wl_X6_4
  | 5, _ => exact wl_X6_5
  | 6, _ => exact wl_X6_6
  | 7, _ => exact wl_X6_7
  | 8, _ => exact wl_X6_8
  | 9, _ => exact wl_X6_9
  | n + 10, h => exact absurd h (by omega), tyX6_ok, nmX6⟩
theorem wl_X7_0 : u_lay RX7 TX7 0 ∈ jWS := jw_t (i := 44) (by decide +kernel) (by decide +kernel)
theorem wl_X7_1 : u_lay RX7 TX7 1 ∈ jWS := jw_t (i := 46) (by decide +kernel) (by decide +kernel)
theorem wc_X7 : jCl 7 RX7 TX7 2 tyX7 := ⟨rfl, fun w hw => by
  obtain ⟨k, hk, rfl⟩ := List.mem_map.mp hw
  have hk := List.mem_range.mp hk
  match k, hk with
  | 0, _ => exact wl_X7_0
  | 1, _ => exact wl_X7_1
  | n + 2, h => exact absurd h (by omega), tyX7_ok, nmX7⟩
theorem wl_X8_0 : u_lay RX8 TX8 0 ∈ jWS := jw_t (i := 244) (by decide +kernel) (by decide +kernel)
theorem wl_X8_1 : u_lay RX8 TX8 1 ∈ jWS := jw_t (i := 246) (by decide +kernel) (by decide +kernel)
theorem wl_X8_2 : u_lay RX8 TX8 2 ∈ jWS := jw_t (i := 248) (by decide +kernel) (by decide +kernel)
theorem wl_X8_3 : u_lay RX8 TX8 3 ∈ jWS := jw_t (i := 250) (by decide +kernel) (by decide +kernel)
theorem wl_X8_4 : u_lay RX8 TX8 4 ∈ jWS := jw_t (i := 252) (by decide +kernel) (by decide +kernel)
theorem wl_X8_5 : u_lay RX8 TX8 5 ∈ jWS := jw_t (i := 254) (by decide +kernel) (by decide +kernel)
theorem wl_X8_6 : u_lay RX8 TX8 6 ∈ jWS := jw_t (i := 256) (by decide +kernel) (by decide +kernel)
theorem wc_X8 : jCl 8 RX8 TX8 7 tyX8 := ⟨rfl, fun w hw => by
  obtain ⟨k, hk, rfl⟩ := List.mem_map.mp hw
  have hk := List.mem_range.mp hk
  match k, hk with
  | 0, _ => exact wl_X8_0
  | 1, _ => exact wl_X8_1
  | 2, _ => exact wl_X8_2
  | 3, _ => exact wl_X8_3
  | 4, _ => exact wl_X8_4
  | 5, _ => exact wl_X8_5
  | 6, _ => exact wl_X8_6
  | n + 7, h => exact absurd h (by omega), tyX8_ok, nmX8⟩
theorem wl_X9_0 : u_lay RX9 TX9 0 ∈ jWS := jw_t (i := 296) (by decide +kernel) (by decide +kernel)
theorem wl_X9_1 : u_lay RX9 TX9 1 ∈ jWS := jw_t (i := 298) (by decide +kernel) (by decide +kernel)
theorem wl_X9_2 : u_lay RX9 TX9 2 ∈ jWS := jw_t (i := 300) (by decide +kernel) (by decide +kernel)
theorem wl_X9_3 : u_lay RX9 TX9 3 ∈ jWS := jw_t (i := 302) (by decide +kernel) (by decide +kernel)
theorem wc_X9 : jCl 9 RX9 TX9 4 tyX9 := ⟨rfl, fun w hw => by
  obtain ⟨k, hk, rfl⟩ := List.mem_map.mp hw
  have hk := List.mem_range.mp hk
  match k, hk with
  | 0, _ => exact wl_X9_0
  | 1, _ => exact wl_X9_1
  | 2, _ => exact wl_X9_2
  | 3, _ => exact wl_X9_3
  | n + 4, h => exact absurd h (by omega), tyX9_ok, nmX9⟩
theorem wl_X10_0 : u_lay RX10 TX10 0 ∈ jWS := jw_t (i := 211) (by decide +kernel) (by decide +kernel)
theorem wl_X10_1 : u_lay RX10 TX10 1 ∈ jWS := jw_t (i := 213) (by decide +kernel) (by decide +kernel)
theorem wl_X10_2 : u_lay RX10 TX10 2 ∈ jWS := jw_t (i := 215) (by decide +kernel) (by decide +kernel)
theorem wl_X10_3 : u_lay RX10 TX10 3 ∈ jWS := jw_t (i := 217) (by decide +kernel) (by decide +kernel)
theorem wl_X10_4 : u_lay RX10 TX10 4 ∈ jWS := jw_t (i := 219) (by decide +kernel) (by decide +kernel)
theorem wl_X10_5 : u_lay RX10 TX10 5 ∈ jWS := jw_t (i := 221) (by decide +kernel) (by decide +kernel)
theorem wl_X10_6 : u_lay RX10 TX10 6 ∈ jWS := jw_t (i := 223) (by decide +kernel) (by decide +kernel)
theorem wl_X10_7 : u_lay RX10 TX10 7 ∈ jWS := jw_t (i := 225) (by decide +kernel) (by decide +kernel)
theorem wc_X10 : jCl 10 RX10 TX10 8 tyX10 := ⟨rfl, fun w hw => by
  obtain ⟨k, hk, rfl⟩ := List.mem_map.mp hw
  have hk := List.mem_range.mp hk
  match k, hk with
  | 0, _ => exact wl_X10_0
  | 1, _ => exact wl_X10_1
  | 2, _ => exact wl_X10_2
  | 3, _ => exact wl_X10_3
  | 4, _ => exact wl_X10_4
  | 5, _ => exact wl_X10_5
  | 6, _ => exact wl_X10_6
  | 7, _ => exact wl_X10_7
  | n + 8, h => exact absurd h (by omega), tyX10_ok, nmX10⟩
theorem wl_X11_0 : u_lay RX11 TX11 0 ∈ jWS := jw_t (i := 340) (by decide +kernel) (by decide +kernel)
theorem wl_X11_1 : u_lay RX11 TX11 1 ∈ jWS := jw_t (i := 342) (by decide +kernel) (by decide +kernel)
theorem wl_X11_2 : u_lay RX11 TX11 2 ∈ jWS := jw_t (i := 344) (by decide +kernel) (by decide +kernel)
theorem wl_X11_3 : u_lay RX11 TX11 3 ∈ jWS := jw_t (i := 346) (by decide +kernel) (by decide +kernel)
theorem wl_X11_4 : u_lay RX11 TX11 4 ∈ jWS := jw_t (i := 348) (by decide +kernel) (by decide +kernel)
theorem wl_X11_5 : u_lay RX11 TX11 5 ∈ jWS := jw_t (i := 350) (by decide +kernel) (by decide +kernel)
theorem wl_X11_6 : u_lay RX11 TX11 6 ∈ jWS := jw_t (i := 352) (by decide +kernel) (by decide +kernel)
theorem wl_X11_7 : u_lay RX11 TX11 7 ∈ jWS := jw_t (i := 354) (by decide +kernel) (by decide +kernel)
theorem wl_X11_8 : u_lay RX11 TX11 8 ∈ jWS := jw_t (i := 356) (by decide +kernel) (by decide +kernel)
theorem wl_X11_9 : u_lay RX11 TX11 9 ∈ jWS := jw_t (i := 358) (by decide +kernel) (by decide +kernel)
theorem wc_X11 : jCl 11 RX11 TX11 10 tyX11 := ⟨rfl, fun w hw => by
  obtain ⟨k, hk, rfl⟩ := List.mem_map.mp hw
  have hk := List.mem_range.mp hk
  match k, hk with
  | 0, _ => exact wl_X11_0
  | 1, _ => exact wl_X11_1
  | 2, _ => exact wl_X11_2
  | 3, _ => exact wl_X11_3
  | 4, _ => exact wl_X11_4
  | 5, _ => exact wl_X11_5
  | 6, _ => exact wl_X11_6
  | 7, _ => exact wl_X11_7
  | 8, _ => exact wl_X11_8
  | 9, _ => exact wl_X11_9
  | n + 10, h => exact absurd h (by omega), tyX11_ok, nmX11⟩
theorem wl_X12_0 : u_lay RX12 TX12 0 ∈ jWS := jw_t (i := 1089) (by decide +kernel) (by decide +kernel)
theorem wl_X12_1 : u_lay RX12 TX12 1 ∈ jWS := jw_t (i := 1091) (by decide +kernel) (by decide +kernel)
theorem wl_X12_2 : u_lay RX12 TX12 2 ∈ jWS := jw_t (i := 1093) (by decide +kernel) (by decide +kernel)
theorem wl_X12_3 : u_lay RX12 TX12 3 ∈ jWS := jw_t (i := 1095) (by decide +kernel) (by decide +kernel)
theorem wl_X12_4 : u_lay RX12 TX12 4 ∈ jWS := jw_t (i := 1097) (by decide +kernel) (by decide +kernel)
theorem wl_X12_5 : u_lay RX12 TX12 5 ∈ jWS := jw_t (i := 1099) (by decide +kernel) (by decide +kernel)
theorem wl_X12_6 : u_lay RX12 TX12 6 ∈ jWS := jw_t (i := 1101) (by decide +kernel) (by decide +kernel)
theorem wl_X12_7 : u_lay RX12 TX12 7 ∈ jWS := jw_t (i := 1103) (by decide +kernel) (by decide +kernel)
theorem wl_X12_8 : u_lay RX12 TX12 8 ∈ jWS := jw_t (i := 1105) (by decide +kernel) (by decide +kernel)
theorem wl_X12_9 : u_lay RX12 TX12 9 ∈ jWS := jw_t (i := 1107) (by decide +kernel) (by decide +kernel)
theorem wl_X12_10 : u_lay RX12 TX12 10 ∈ jWS := jw_t (i := 1109) (by decide +kernel) (by decide +kernel)
theorem wl_X12_11 : u_lay RX12 TX12 11 ∈ jWS := jw_t (i := 1111) (by decide +kernel) (by decide +kernel)
theorem wl_X12_12 : u_lay RX12 TX12 12 ∈ jWS := jw_t (i := 1113) (by decide +kernel) (by decide +kernel)
theorem wl_X12_13 : u_lay RX12 TX12 13 ∈ jWS := jw_t (i := 1115) (by decide +kernel) (by decide +kernel)
theorem wl_X12_14 : u_lay RX12 TX12 14 ∈ jWS := jw_t (i := 1117) (by decide +kernel) (by decide +kernel)
theorem wl_X12_15 : u_lay RX12 TX12 15 ∈ jWS := jw_t (i := 1119) (by decide +kernel) (by decide +kernel)
theorem wl_X12_16 : u_lay RX12 TX12 16 ∈ jWS := jw_t (i := 1121) (by decide +kernel) (by decide +kernel)
theorem wl_X12_17 : u_lay RX12 TX12 17 ∈ jWS := jw_t (i := 1123) (by decide +kernel) (by decide +kernel)
theorem wl_X12_18 : u_lay RX12 TX12 18 ∈ jWS := jw_t (i := 1125) (by decide +kernel) (by decide +kernel)
theorem wl_X12_19 : u_lay RX12 TX12 19 ∈ jWS := jw_t (i := 1127) (by decide +kernel) (by decide +kernel)
theorem wl_X12_20 : u_lay RX12 TX12 20 ∈ jWS := jw_t (i := 1129) (by decide +kernel) (by decide +kernel)
theorem wl_X12_21 : u_lay RX12 TX12 21 ∈ jWS := jw_t (i := 1131) (by decide +kernel) (by decide +kernel)
theorem wl_X12_22 : u_lay RX12 TX12 22 ∈ jWS := jw_t (i := 1133) (by decide +kernel) (by decide +kernel)
theorem wl_X12_23 : u_lay RX12 TX12 23 ∈ jWS := jw_t (i := 1135) (by decide +kernel) (by decide +kernel)
theorem wl_X12_24 : u_lay RX12 TX12 24 ∈ jWS := jw_t (i := 1137) (by decide +kernel) (by decide +kernel)
theorem wl_X12_25 : u_lay RX12 TX12 25 ∈ jWS := jw_t (i := 1139) (by decide +kernel) (by decide +kernel)
theorem wl_X12_26 : u_lay RX12 TX12 26 ∈ jWS := jw_t (i := 1141) (by decide +kernel) (by decide +kernel)
theorem wl_X12_27 : u_lay RX12 TX12 27 ∈ jWS := jw_t (i := 1143) (by decide +kernel) (by decide +kernel)
theorem wl_X12_28 : u_lay RX12 TX12 28 ∈ jWS := jw_t (i := 1145) (by decide +kernel) (by decide +kernel)
theorem wl_X12_29 : u_lay RX12 TX12 29 ∈ jWS := jw_t (i := 1147) (by decide +kernel) (by decide +kernel)
theorem wl_X12_30 : u_lay RX12 TX12 30 ∈ jWS := jw_t (i := 1149) (by decide +kernel) (by decide +kernel)
theorem wl_X12_31 : u_lay RX12 TX12 31 ∈ jWS := jw_t (i := 1151) (by decide +kernel) (by decide +kernel)
theorem wl_X12_32 : u_lay RX12 TX12 32 ∈ jWS := jw_t (i := 1153) (by decide +kernel) (by decide +kernel)
theorem wl_X12_33 : u_lay RX12 TX12 33 ∈ jWS := jw_t (i := 1155) (by decide +kernel) (by decide +kernel)
theorem wl_X12_34 : u_lay RX12 TX12 34 ∈ jWS := jw_t (i := 1157) (by decide +kernel) (by decide +kernel)
theorem wl_X12_35 : u_lay RX12 TX12 35 ∈ jWS := jw_t (i := 1159) (by decide +kernel) (by decide +kernel)
theorem wl_X12_36 : u_lay RX12 TX12 36 ∈ jWS := jw_t (i := 1161) (by decide +kernel) (by decide +kernel)
theorem wl_X12_37 : u_lay RX12 TX12 37 ∈ jWS := jw_t (i := 1163) (by decide +kernel) (by decide +kernel)
theorem wl_X12_38 : u_lay RX12 TX12 38 ∈ jWS := jw_t (i := 1165) (by decide +kernel) (by decide +kernel)
theorem wl_X12_39 : u_lay RX12 TX12 39 ∈ jWS := jw_t (i := 1167) (by decide +kernel) (by decide +kernel)
theorem wl_X12_40 : u_lay RX12 TX12 40 ∈ jWS := jw_t (i := 1169) (by decide +kernel) (by decide +kernel)
theorem wl_X12_41 : u_lay RX12 TX12 41 ∈ jWS := jw_t (i := 1171) (by decide +kernel) (by decide +kernel)
theorem wl_X12_42 : u_lay RX12 TX12 42 ∈ jWS := jw_t (i := 1173) (by decide +kernel) (by decide +kernel)
theorem wl_X12_43 : u_lay RX12 TX12 43 ∈ jWS := jw_t (i := 1175) (by decide +kernel) (by decide +kernel)
theorem wl_X12_44 : u_lay RX12 TX12 44 ∈ jWS := jw_t (i := 1177) (by decide +kernel) (by decide +kernel)
theorem wl_X12_45 : u_lay RX12 TX12 45 ∈ jWS := jw_t (i := 1179) (by decide +kernel) (by decide +kernel)
theorem wl_X12_46 : u_lay RX12 TX12 46 ∈ jWS := jw_t (i := 1181) (by decide +kernel) (by decide +kernel)
theorem wl_X12_47 : u_lay RX12 TX12 47 ∈ jWS := jw_t (i := 1183) (by decide +kernel) (by decide +kernel)
theorem wl_X12_48 : u_lay RX12 TX12 48 ∈ jWS := jw_t (i := 1185) (by decide +kernel) (by decide +kernel)
theorem wl_X12_49 : u_lay RX12 TX12 49 ∈ jWS := jw_t (i := 1187) (by decide +kernel) (by decide +kernel)
theorem wl_X12_50 : u_lay RX12 TX12 50 ∈ jWS := jw_t (i := 1189) (by decide +kernel) (by decide +kernel)
theorem wl_X12_51 : u_lay RX12 TX12 51 ∈ jWS := jw_t (i := 1191) (by decide +kernel) (by decide +kernel)
theorem wl_X12_52 : u_lay RX12 TX12 52 ∈ jWS := jw_t (i := 1193) (by decide +kernel) (by decide +kernel)
theorem wc_X12 : jCl 12 RX12 TX12 53 tyX12 := ⟨rfl, fun w hw => by
  obtain ⟨k, hk, rfl⟩ := List.mem_map.mp hw
  have hk := List.mem_range.mp hk
  match k, hk with
  | 0, _ => exact wl_X12_0
  | 1, _ => exact wl_X12_1
  | 2, _ => exact wl_X12_2
  | 3, _ => exact wl_X12_3
  | 4, _ => exact wl_X12_4
  | 5, _ => exact wl_X12_5
  | 6, _ => exact wl_X12_6
  | 7, _ => exact wl_X12_7
  | 8, _ => exact wl_X12_8
  | 9, _ => exact wl_X12_9
  | 10, _ => exact wl_X12_10
  | 11, _ => exact wl_X12_11
  | 12, _ => exact wl_X12_12
  | 13, _ => exact wl_X12_13
  | 14, _ => exact wl_X12_14
  | 15, _ => exact wl_X12_15
  | 16, _ => exact wl_X12_16
  | 17, _ => exact wl_X12_17
  | 18, _ => exact wl_X12_18
  | 19, _ => exact wl_X12_19
  | 20, _ => exact wl_X12_20
  | 21, _ => exact wl_X12_21
  | 22, _ => exact wl_X12_22
  | 23, _ => exact wl_X12_23
  | 24, _ => exact wl_X12_24
  | 25, _ => exact wl_X12_25
  | 26, _ => exact wl_X12_26
  | 27, _ => exact wl_X12_27
  | 28, _ => exact wl_X12_28
  | 29, _ => exact wl_X12_29
  | 30, _ => exact wl_X12_30
  | 31, _ => exact wl_X12_31
  | 32, _ => exact wl_X12_32
  | 33, _ => exact wl_X12_33
  | 34, _ => exact wl_X12_34
  | 35, _ => exact wl_X12_35
  | 36, _ => exact wl_X12_36
  | 37, _ => exact wl_X12_37
  | 38, _ => exact wl_X12_38
  | 39, _ => exact wl_X12_39
  | 40, _ => exact wl_X12_40
  | 41, _ => exact wl_X12_41
  | 42, _ => exact wl_X12_42
  | 43, _ => exact wl_X12_43
  | 44, _ => exact wl_X12_44
  | 45, _ => exact wl_X12_45
  | 46, _ => exact wl_X12_46
  | 47, _ => exact wl_X12_47
  | 48, _ => exact wl_X12_48
  | 49, _ => exact wl_X12_49
  | 50, _ => exact wl_X12_50
  | 51, _ => exact wl_X12_51
  | 52, _ => exact wl_X12_52
  | n + 53, h => exact absurd h (by omega), tyX12_ok, nmX12⟩
theorem ff_X7_11 : jF RX7 11 7 2 0 2 (.array (.array .int)) true := ⟨RX7, TX7, tyX7, wc_X7, by decide, by decide, by decide, rfl, jw_t (i := 38) (by decide +kernel) (by decide +kernel), rfl, rfl⟩
theorem ff_X3_33 : jF RX3 33 7 2 0 2 (.array (.array .int)) true := ⟨RX7, TX7, tyX7, wc_X7, by decide, by decide, by decide, rfl, jw_t (i := 39) (by decide +kernel) (by decide +kernel), rfl, rfl⟩
theorem ff_X7_26 : jF RX7 26 7 2 1 0 (.int) false := ⟨RX7, TX7, tyX7, wc_X7, by decide, by decide, by decide, rfl, jw_t (i := 40) (by decide +kernel) (by decide +kernel), rfl, rfl⟩
theorem ff_X11_87 : jF RX11 87 7 2 1 0 (.int) false := ⟨RX7, TX7, tyX7, wc_X7, by decide, by decide, by decide, rfl, jw_t (i := 41) (by decide +kernel) (by decide +kernel), rfl, rfl⟩
theorem ff_X10_58 : jF RX10 58 7 2 1 0 (.int) false := ⟨RX7, TX7, tyX7, wc_X7, by decide, by decide, by decide, rfl, jw_t (i := 42) (by decide +kernel) (by decide +kernel), rfl, rfl⟩
theorem ff_X8_77 : jF RX8 77 7 2 1 0 (.int) false := ⟨RX7, TX7, tyX7, wc_X7, by decide, by decide, by decide, rfl, jw_t (i := 43) (by decide +kernel) (by decide +kernel), rfl, rfl⟩
theorem ff_X2_9 : jF RX2 9 2 6 0 2 (.array .int) true := ⟨RX2, TX2, tyX2, wc_X2, by decide, by decide, by decide, rfl, jw_t (i := 56) (by decide +kernel) (by decide +kernel), rfl, rfl⟩
theorem ff_X2_13 : jF RX2 13 2 6 1 2 (.array .int) true := ⟨RX2, TX2, tyX2, wc_X2, by decide, by decide, by decide, rfl, jw_t (i := 57) (by decide +kernel) (by decide +kernel), rfl, rfl⟩
theorem ff_X2_16 : jF RX2 16 2 6 2 2 (.array .int) true := ⟨RX2, TX2, tyX2, wc_X2, by decide, by decide, by decide, rfl, jw_t (i := 58) (by decide +kernel) (by decide +kernel), rfl, rfl⟩
theorem ff_X2_19 : jF RX2 19 2 6 3 2 (.array .int) true := ⟨RX2, TX2, tyX2, wc_X2, by decide, by decide, by decide, rfl, jw_t (i := 59) (by decide +kernel) (by decide +kernel), rfl, rfl⟩
theorem ff_X2_22 : jF RX2 22 2 6 4 0 (.int) false := ⟨RX2, TX2, tyX2, wc_X2, by decide, by decide, by decide, rfl, jw_t (i := 60) (by decide +kernel) (by decide +kernel), rfl, rfl⟩
theorem ff_X11_297 : jF RX11 297 2 6 4 0 (.int) false := ⟨RX2, TX2, tyX2, wc_X2, by decide, by decide, by decide, rfl, jw_t (i := 61) (by decide +kernel) (by decide +kernel), rfl, rfl⟩
theorem ff_X2_26 : jF RX2 26 2 6 5 0 (.int) false := ⟨RX2, TX2, tyX2, wc_X2, by decide, by decide, by decide, rfl, jw_t (i := 62) (by decide +kernel) (by decide +kernel), rfl, rfl⟩
theorem ff_X11_303 : jF RX11 303 2 6 5 0 (.int) false := ⟨RX2, TX2, tyX2, wc_X2, by decide, by decide, by decide, rfl, jw_t (i := 63) (by decide +kernel) (by decide +kernel), rfl, rfl⟩
theorem ff_X6_9 : jF RX6 9 6 10 0 2 (.array .int) true := ⟨RX6, TX6, tyX6, wc_X6, by decide, by decide, by decide, rfl, jw_t (i := 83) (by decide +kernel) (by decide +kernel), rfl, rfl⟩
theorem ff_X6_13 : jF RX6 13 6 10 1 2 (.array .int) true := ⟨RX6, TX6, tyX6, wc_X6, by decide, by decide, by decide, rfl, jw_t (i := 84) (by decide +kernel) (by decide +kernel), rfl, rfl⟩
theorem ff_X6_16 : jF RX6 16 6 10 2 2 (.array .int) true := ⟨RX6, TX6, tyX6, wc_X6, by decide, by decide, by decide, rfl, jw_t (i := 85) (by decide +kernel) (by decide +kernel), rfl, rfl⟩
theorem ff_X6_19 : jF RX6 19 6 10 3 2 (.array .int) true := ⟨RX6, TX6, tyX6, wc_X6, by decide, by decide, by decide, rfl, jw_t (i := 86) (by decide +kernel) (by decide +kernel), rfl, rfl⟩
theorem ff_X6_22 : jF RX6 22 6 10 4 2 (.array .int) true := ⟨RX6, TX6, tyX6, wc_X6, by decide, by decide, by decide, rfl, jw_t (i := 87) (by decide +kernel) (by decide +kernel), rfl, rfl⟩
theorem ff_X6_25 : jF RX6 25 6 10 5 0 (.int) false := ⟨RX6, TX6, tyX6, wc_X6, by decide, by decide, by decide, rfl, jw_t (i := 88) (by decide +kernel) (by decide +kernel), rfl, rfl⟩
theorem ff_X11_153 : jF RX11 153 6 10 5 0 (.int) false := ⟨RX6, TX6, tyX6, wc_X6, by decide, by decide, by decide, rfl, jw_t (i := 89) (by decide +kernel) (by decide +kernel), rfl, rfl⟩
theorem ff_X6_29 : jF RX6 29 6 10 6 0 (.int) false := ⟨RX6, TX6, tyX6, wc_X6, by decide, by decide, by decide, rfl, jw_t (i := 90) (by decide +kernel) (by decide +kernel), rfl, rfl⟩
theorem ff_X6_32 : jF RX6 32 6 10 7 0 (.int) false := ⟨RX6, TX6, tyX6, wc_X6, by decide, by decide, by decide, rfl, jw_t (i := 91) (by decide +kernel) (by decide +kernel), rfl, rfl⟩
theorem ff_X6_35 : jF RX6 35 6 10 8 0 (.int) false := ⟨RX6, TX6, tyX6, wc_X6, by decide, by decide, by decide, rfl, jw_t (i := 92) (by decide +kernel) (by decide +kernel), rfl, rfl⟩
theorem ff_X6_38 : jF RX6 38 6 10 9 0 (.int) false := ⟨RX6, TX6, tyX6, wc_X6, by decide, by decide, by decide, rfl, jw_t (i := 93) (by decide +kernel) (by decide +kernel), rfl, rfl⟩
theorem ff_X3_9 : jF RX3 9 3 6 0 2 (.object "HeaviestLast$Pond") true := ⟨RX3, TX3, tyX3, wc_X3, by decide, by decide, by decide, rfl, jw_t (i := 121) (by decide +kernel) (by decide +kernel), rfl, rfl⟩
theorem ff_X3_15 : jF RX3 15 3 6 1 2 (.object "HeaviestLast$Law") true := ⟨RX3, TX3, tyX3, wc_X3, by decide, by decide, by decide, rfl, jw_t (i := 122) (by decide +kernel) (by decide +kernel), rfl, rfl⟩
theorem ff_X3_19 : jF RX3 19 3 6 2 0 (.int) false := ⟨RX3, TX3, tyX3, wc_X3, by decide, by decide, by decide, rfl, jw_t (i := 123) (by decide +kernel) (by decide +kernel), rfl, rfl⟩
theorem ff_X3_23 : jF RX3 23 3 6 3 0 (.int) false := ⟨RX3, TX3, tyX3, wc_X3, by decide, by decide, by decide, rfl, jw_t (i := 124) (by decide +kernel) (by decide +kernel), rfl, rfl⟩
theorem ff_X3_26 : jF RX3 26 3 6 4 0 (.int) false := ⟨RX3, TX3, tyX3, wc_X3, by decide, by decide, by decide, rfl, jw_t (i := 125) (by decide +kernel) (by decide +kernel), rfl, rfl⟩
theorem ff_X3_29 : jF RX3 29 3 6 5 0 (.boolean) false := ⟨RX3, TX3, tyX3, wc_X3, by decide, by decide, by decide, rfl, jw_t (i := 126) (by decide +kernel) (by decide +kernel), rfl, rfl⟩
theorem ff_X5_9 : jF RX5 9 5 3 0 2 (.array .int) true := ⟨RX5, TX5, tyX5, wc_X5, by decide, by decide, by decide, rfl, jw_t (i := 152) (by decide +kernel) (by decide +kernel), rfl, rfl⟩
theorem ff_X3_39 : jF RX3 39 5 3 0 2 (.array .int) true := ⟨RX5, TX5, tyX5, wc_X5, by decide, by decide, by decide, rfl, jw_t (i := 153) (by decide +kernel) (by decide +kernel), rfl, rfl⟩
theorem ff_X5_15 : jF RX5 15 5 3 1 2 (.array .int) true := ⟨RX5, TX5, tyX5, wc_X5, by decide, by decide, by decide, rfl, jw_t (i := 154) (by decide +kernel) (by decide +kernel), rfl, rfl⟩
theorem ff_X3_51 : jF RX3 51 5 3 1 2 (.array .int) true := ⟨RX5, TX5, tyX5, wc_X5, by decide, by decide, by decide, rfl, jw_t (i := 155) (by decide +kernel) (by decide +kernel), rfl, rfl⟩
theorem ff_X4_42 : jF RX4 42 5 3 1 2 (.array .int) true := ⟨RX5, TX5, tyX5, wc_X5, by decide, by decide, by decide, rfl, jw_t (i := 156) (by decide +kernel) (by decide +kernel), rfl, rfl⟩
theorem ff_X8_71 : jF RX8 71 5 3 1 2 (.array .int) true := ⟨RX5, TX5, tyX5, wc_X5, by decide, by decide, by decide, rfl, jw_t (i := 157) (by decide +kernel) (by decide +kernel), rfl, rfl⟩
theorem ff_X5_18 : jF RX5 18 5 3 2 0 (.int) false := ⟨RX5, TX5, tyX5, wc_X5, by decide, by decide, by decide, rfl, jw_t (i := 158) (by decide +kernel) (by decide +kernel), rfl, rfl⟩
theorem ff_X3_54 : jF RX3 54 5 3 2 0 (.int) false := ⟨RX5, TX5, tyX5, wc_X5, by decide, by decide, by decide, rfl, jw_t (i := 159) (by decide +kernel) (by decide +kernel), rfl, rfl⟩
theorem ff_X4_51 : jF RX4 51 5 3 2 0 (.int) false := ⟨RX5, TX5, tyX5, wc_X5, by decide, by decide, by decide, rfl, jw_t (i := 160) (by decide +kernel) (by decide +kernel), rfl, rfl⟩
theorem ff_X11_130 : jF RX11 130 5 3 2 0 (.int) false := ⟨RX5, TX5, tyX5, wc_X5, by decide, by decide, by decide, rfl, jw_t (i := 161) (by decide +kernel) (by decide +kernel), rfl, rfl⟩
theorem ff_X8_74 : jF RX8 74 5 3 2 0 (.int) false := ⟨RX5, TX5, tyX5, wc_X5, by decide, by decide, by decide, rfl, jw_t (i := 162) (by decide +kernel) (by decide +kernel), rfl, rfl⟩
theorem ff_X4_12 : jF RX4 12 4 6 0 2 (.object "HeaviestLast$Ice") true := ⟨RX4, TX4, tyX4, wc_X4, by decide, by decide, by decide, rfl, jw_t (i := 170) (by decide +kernel) (by decide +kernel), rfl, rfl⟩
theorem ff_X11_126 : jF RX11 126 4 6 0 2 (.object "HeaviestLast$Ice") true := ⟨RX4, TX4, tyX4, wc_X4, by decide, by decide, by decide, rfl, jw_t (i := 171) (by decide +kernel) (by decide +kernel), rfl, rfl⟩
theorem ff_X4_18 : jF RX4 18 4 6 1 2 (.array .int) true := ⟨RX4, TX4, tyX4, wc_X4, by decide, by decide, by decide, rfl, jw_t (i := 172) (by decide +kernel) (by decide +kernel), rfl, rfl⟩
theorem ff_X4_22 : jF RX4 22 4 6 2 2 (.array .int) true := ⟨RX4, TX4, tyX4, wc_X4, by decide, by decide, by decide, rfl, jw_t (i := 173) (by decide +kernel) (by decide +kernel), rfl, rfl⟩
theorem ff_X4_25 : jF RX4 25 4 6 3 2 (.array .int) true := ⟨RX4, TX4, tyX4, wc_X4, by decide, by decide, by decide, rfl, jw_t (i := 174) (by decide +kernel) (by decide +kernel), rfl, rfl⟩
theorem ff_X4_28 : jF RX4 28 4 6 4 0 (.int) false := ⟨RX4, TX4, tyX4, wc_X4, by decide, by decide, by decide, rfl, jw_t (i := 175) (by decide +kernel) (by decide +kernel), rfl, rfl⟩
theorem ff_X4_32 : jF RX4 32 4 6 5 0 (.boolean) false := ⟨RX4, TX4, tyX4, wc_X4, by decide, by decide, by decide, rfl, jw_t (i := 176) (by decide +kernel) (by decide +kernel), rfl, rfl⟩
theorem ff_X10_9 : jF RX10 9 10 8 0 2 (.object "HeaviestLast$Pond") true := ⟨RX10, TX10, tyX10, wc_X10, by decide, by decide, by decide, rfl, jw_t (i := 198) (by decide +kernel) (by decide +kernel), rfl, rfl⟩
theorem ff_X10_15 : jF RX10 15 10 8 1 2 (.object "HeaviestLast$Crosser") true := ⟨RX10, TX10, tyX10, wc_X10, by decide, by decide, by decide, rfl, jw_t (i := 199) (by decide +kernel) (by decide +kernel), rfl, rfl⟩
theorem ff_X10_22 : jF RX10 22 10 8 2 2 (.object "HeaviestLast$Ice") true := ⟨RX10, TX10, tyX10, wc_X10, by decide, by decide, by decide, rfl, jw_t (i := 200) (by decide +kernel) (by decide +kernel), rfl, rfl⟩
theorem ff_X11_176 : jF RX11 176 10 8 2 2 (.object "HeaviestLast$Ice") true := ⟨RX10, TX10, tyX10, wc_X10, by decide, by decide, by decide, rfl, jw_t (i := 201) (by decide +kernel) (by decide +kernel), rfl, rfl⟩
theorem ff_X10_26 : jF RX10 26 10 8 3 2 (.array .int) true := ⟨RX10, TX10, tyX10, wc_X10, by decide, by decide, by decide, rfl, jw_t (i := 202) (by decide +kernel) (by decide +kernel), rfl, rfl⟩
theorem ff_X10_30 : jF RX10 30 10 8 4 2 (.array .int) true := ⟨RX10, TX10, tyX10, wc_X10, by decide, by decide, by decide, rfl, jw_t (i := 203) (by decide +kernel) (by decide +kernel), rfl, rfl⟩
theorem ff_X10_33 : jF RX10 33 10 8 5 0 (.int) false := ⟨RX10, TX10, tyX10, wc_X10, by decide, by decide, by decide, rfl, jw_t (i := 204) (by decide +kernel) (by decide +kernel), rfl, rfl⟩
theorem ff_X1_53 : jF RX1 53 10 8 5 0 (.int) false := ⟨RX10, TX10, tyX10, wc_X10, by decide, by decide, by decide, rfl, jw_t (i := 205) (by decide +kernel) (by decide +kernel), rfl, rfl⟩
theorem ff_X11_191 : jF RX11 191 10 8 5 0 (.int) false := ⟨RX10, TX10, tyX10, wc_X10, by decide, by decide, by decide, rfl, jw_t (i := 206) (by decide +kernel) (by decide +kernel), rfl, rfl⟩
theorem ff_X10_37 : jF RX10 37 10 8 6 0 (.int) false := ⟨RX10, TX10, tyX10, wc_X10, by decide, by decide, by decide, rfl, jw_t (i := 207) (by decide +kernel) (by decide +kernel), rfl, rfl⟩
theorem ff_X11_170 : jF RX11 170 10 8 6 0 (.int) false := ⟨RX10, TX10, tyX10, wc_X10, by decide, by decide, by decide, rfl, jw_t (i := 208) (by decide +kernel) (by decide +kernel), rfl, rfl⟩
theorem ff_X10_40 : jF RX10 40 10 8 7 0 (.int) false := ⟨RX10, TX10, tyX10, wc_X10, by decide, by decide, by decide, rfl, jw_t (i := 209) (by decide +kernel) (by decide +kernel), rfl, rfl⟩
theorem ff_X11_173 : jF RX11 173 10 8 7 0 (.int) false := ⟨RX10, TX10, tyX10, wc_X10, by decide, by decide, by decide, rfl, jw_t (i := 210) (by decide +kernel) (by decide +kernel), rfl, rfl⟩
theorem ff_X8_9 : jF RX8 9 8 7 0 2 (.object "HeaviestLast$Pond") true := ⟨RX8, TX8, tyX8, wc_X8, by decide, by decide, by decide, rfl, jw_t (i := 237) (by decide +kernel) (by decide +kernel), rfl, rfl⟩
theorem ff_X8_15 : jF RX8 15 8 7 1 2 (.object "HeaviestLast$Crosser") true := ⟨RX8, TX8, tyX8, wc_X8, by decide, by decide, by decide, rfl, jw_t (i := 238) (by decide +kernel) (by decide +kernel), rfl, rfl⟩
theorem ff_X8_22 : jF RX8 22 8 7 2 2 (.object "HeaviestLast$Ice") true := ⟨RX8, TX8, tyX8, wc_X8, by decide, by decide, by decide, rfl, jw_t (i := 239) (by decide +kernel) (by decide +kernel), rfl, rfl⟩
theorem ff_X8_28 : jF RX8 28 8 7 3 2 (.array (.array .int)) true := ⟨RX8, TX8, tyX8, wc_X8, by decide, by decide, by decide, rfl, jw_t (i := 240) (by decide +kernel) (by decide +kernel), rfl, rfl⟩
theorem ff_X8_31 : jF RX8 31 8 7 4 2 (.array .int) true := ⟨RX8, TX8, tyX8, wc_X8, by decide, by decide, by decide, rfl, jw_t (i := 241) (by decide +kernel) (by decide +kernel), rfl, rfl⟩
theorem ff_X8_35 : jF RX8 35 8 7 5 2 (.array .int) true := ⟨RX8, TX8, tyX8, wc_X8, by decide, by decide, by decide, rfl, jw_t (i := 242) (by decide +kernel) (by decide +kernel), rfl, rfl⟩
theorem ff_X8_38 : jF RX8 38 8 7 6 0 (.int) false := ⟨RX8, TX8, tyX8, wc_X8, by decide, by decide, by decide, rfl, jw_t (i := 243) (by decide +kernel) (by decide +kernel), rfl, rfl⟩
theorem ff_X1_9 : jF RX1 9 1 5 0 2 (.object "HeaviestLast$Pond") true := ⟨RX1, TX1, tyX1, wc_X1, by decide, by decide, by decide, rfl, jw_t (i := 267) (by decide +kernel) (by decide +kernel), rfl, rfl⟩
theorem ff_X1_15 : jF RX1 15 1 5 1 2 (.object "HeaviestLast$Crosser") true := ⟨RX1, TX1, tyX1, wc_X1, by decide, by decide, by decide, rfl, jw_t (i := 268) (by decide +kernel) (by decide +kernel), rfl, rfl⟩
theorem ff_X1_22 : jF RX1 22 1 5 2 2 (.object "HeaviestLast$Ice") true := ⟨RX1, TX1, tyX1, wc_X1, by decide, by decide, by decide, rfl, jw_t (i := 269) (by decide +kernel) (by decide +kernel), rfl, rfl⟩
theorem ff_X1_26 : jF RX1 26 1 5 3 2 (.array .int) true := ⟨RX1, TX1, tyX1, wc_X1, by decide, by decide, by decide, rfl, jw_t (i := 270) (by decide +kernel) (by decide +kernel), rfl, rfl⟩
theorem ff_X1_30 : jF RX1 30 1 5 4 2 (.array .int) true := ⟨RX1, TX1, tyX1, wc_X1, by decide, by decide, by decide, rfl, jw_t (i := 271) (by decide +kernel) (by decide +kernel), rfl, rfl⟩
theorem ff_X9_11 : jF RX9 11 9 4 0 2 (.array .int) true := ⟨RX9, TX9, tyX9, wc_X9, by decide, by decide, by decide, rfl, jw_t (i := 292) (by decide +kernel) (by decide +kernel), rfl, rfl⟩
theorem ff_X9_15 : jF RX9 15 9 4 1 2 (.array .int) true := ⟨RX9, TX9, tyX9, wc_X9, by decide, by decide, by decide, rfl, jw_t (i := 293) (by decide +kernel) (by decide +kernel), rfl, rfl⟩
theorem ff_X9_18 : jF RX9 18 9 4 2 2 (.array .int) true := ⟨RX9, TX9, tyX9, wc_X9, by decide, by decide, by decide, rfl, jw_t (i := 294) (by decide +kernel) (by decide +kernel), rfl, rfl⟩
theorem ff_X9_23 : jF RX9 23 9 4 3 2 (.array (.array .long)) true := ⟨RX9, TX9, tyX9, wc_X9, by decide, by decide, by decide, rfl, jw_t (i := 295) (by decide +kernel) (by decide +kernel), rfl, rfl⟩
theorem ff_X0_11 : jF RX0 11 0 5 0 2 (.array .int) true := ⟨RX0, TX0, tyX0, wc_X0, by decide, by decide, by decide, rfl, jw_t (i := 312) (by decide +kernel) (by decide +kernel), rfl, rfl⟩
theorem ff_X0_15 : jF RX0 15 0 5 1 2 (.array .int) true := ⟨RX0, TX0, tyX0, wc_X0, by decide, by decide, by decide, rfl, jw_t (i := 313) (by decide +kernel) (by decide +kernel), rfl, rfl⟩
theorem ff_X0_18 : jF RX0 18 0 5 2 0 (.int) false := ⟨RX0, TX0, tyX0, wc_X0, by decide, by decide, by decide, rfl, jw_t (i := 314) (by decide +kernel) (by decide +kernel), rfl, rfl⟩
theorem ff_X11_317 : jF RX11 317 0 5 2 0 (.int) false := ⟨RX0, TX0, tyX0, wc_X0, by decide, by decide, by decide, rfl, jw_t (i := 315) (by decide +kernel) (by decide +kernel), rfl, rfl⟩
theorem ff_X0_22 : jF RX0 22 0 5 3 0 (.int) false := ⟨RX0, TX0, tyX0, wc_X0, by decide, by decide, by decide, rfl, jw_t (i := 316) (by decide +kernel) (by decide +kernel), rfl, rfl⟩
theorem ff_X11_354 : jF RX11 354 0 5 3 0 (.int) false := ⟨RX0, TX0, tyX0, wc_X0, by decide, by decide, by decide, rfl, jw_t (i := 317) (by decide +kernel) (by decide +kernel), rfl, rfl⟩
theorem ff_X0_25 : jF RX0 25 0 5 4 0 (.int) false := ⟨RX0, TX0, tyX0, wc_X0, by decide, by decide, by decide, rfl, jw_t (i := 318) (by decide +kernel) (by decide +kernel), rfl, rfl⟩
theorem ff_X11_10 : jF RX11 10 11 10 0 2 (.object "HeaviestLast$Pond") true := ⟨RX11, TX11, tyX11, wc_X11, by decide, by decide, by decide, rfl, jw_t (i := 330) (by decide +kernel) (by decide +kernel), rfl, rfl⟩
theorem ff_X11_19 : jF RX11 19 11 10 1 2 (.object "HeaviestLast$Changes") true := ⟨RX11, TX11, tyX11, wc_X11, by decide, by decide, by decide, rfl, jw_t (i := 331) (by decide +kernel) (by decide +kernel), rfl, rfl⟩
theorem ff_X11_26 : jF RX11 26 11 10 2 2 (.object "HeaviestLast$Law") true := ⟨RX11, TX11, tyX11, wc_X11, by decide, by decide, by decide, rfl, jw_t (i := 332) (by decide +kernel) (by decide +kernel), rfl, rfl⟩
theorem ff_X11_35 : jF RX11 35 11 10 3 2 (.object "HeaviestLast$Crosser") true := ⟨RX11, TX11, tyX11, wc_X11, by decide, by decide, by decide, rfl, jw_t (i := 333) (by decide +kernel) (by decide +kernel), rfl, rfl⟩
theorem ff_X11_42 : jF RX11 42 11 10 4 2 (.object "HeaviestLast$Deed") true := ⟨RX11, TX11, tyX11, wc_X11, by decide, by decide, by decide, rfl, jw_t (i := 334) (by decide +kernel) (by decide +kernel), rfl, rfl⟩
theorem ff_X11_51 : jF RX11 51 11 10 5 2 (.object "HeaviestLast$Thought") true := ⟨RX11, TX11, tyX11, wc_X11, by decide, by decide, by decide, rfl, jw_t (i := 335) (by decide +kernel) (by decide +kernel), rfl, rfl⟩
theorem ff_X11_58 : jF RX11 58 11 10 6 2 (.object "HeaviestLast$Search") true := ⟨RX11, TX11, tyX11, wc_X11, by decide, by decide, by decide, rfl, jw_t (i := 336) (by decide +kernel) (by decide +kernel), rfl, rfl⟩
theorem ff_X11_65 : jF RX11 65 11 10 7 2 (.object "HeaviestLast$Chance") true := ⟨RX11, TX11, tyX11, wc_X11, by decide, by decide, by decide, rfl, jw_t (i := 337) (by decide +kernel) (by decide +kernel), rfl, rfl⟩
theorem ff_X11_72 : jF RX11 72 11 10 8 2 (.object "HeaviestLast$Shelves") true := ⟨RX11, TX11, tyX11, wc_X11, by decide, by decide, by decide, rfl, jw_t (i := 338) (by decide +kernel) (by decide +kernel), rfl, rfl⟩
theorem ff_X11_79 : jF RX11 79 11 10 9 2 (.object "HeaviestLast$Acts") true := ⟨RX11, TX11, tyX11, wc_X11, by decide, by decide, by decide, rfl, jw_t (i := 339) (by decide +kernel) (by decide +kernel), rfl, rfl⟩
theorem ff_X12_11 : jF RX12 11 12 53 0 2 (.array .int) true := ⟨RX12, TX12, tyX12, wc_X12, by decide, by decide, by decide, rfl, jw_t (i := 1036) (by decide +kernel) (by decide +kernel), rfl, rfl⟩
theorem ff_X12_15 : jF RX12 15 12 53 1 2 (.array .int) true := ⟨RX12, TX12, tyX12, wc_X12, by decide, by decide, by decide, rfl, jw_t (i := 1037) (by decide +kernel) (by decide +kernel), rfl, rfl⟩
theorem ff_X12_18 : jF RX12 18 12 53 2 2 (.array .int) true := ⟨RX12, TX12, tyX12, wc_X12, by decide, by decide, by decide, rfl, jw_t (i := 1038) (by decide +kernel) (by decide +kernel), rfl, rfl⟩
theorem ff_X12_21 : jF RX12 21 12 53 3 2 (.array .int) true := ⟨RX12, TX12, tyX12, wc_X12, by decide, by decide, by decide, rfl, jw_t (i := 1039) (by decide +kernel) (by decide +kernel), rfl, rfl⟩
theorem ff_X12_90 : jF RX12 90 12 53 4 0 (.int) false := ⟨RX12, TX12, tyX12, wc_X12, by decide, by decide, by decide, rfl, jw_t (i := 1040) (by decide +kernel) (by decide +kernel), rfl, rfl⟩
theorem ff_X12_87 : jF RX12 87 12 53 5 0 (.int) false := ⟨RX12, TX12, tyX12, wc_X12, by decide, by decide, by decide, rfl, jw_t (i := 1041) (by decide +kernel) (by decide +kernel), rfl, rfl⟩
theorem ff_X12_93 : jF RX12 93 12 53 6 0 (.int) false := ⟨RX12, TX12, tyX12, wc_X12, by decide, by decide, by decide, rfl, jw_t (i := 1042) (by decide +kernel) (by decide +kernel), rfl, rfl⟩
theorem ff_X12_24 : jF RX12 24 12 53 7 2 (.array .int) true := ⟨RX12, TX12, tyX12, wc_X12, by decide, by decide, by decide, rfl, jw_t (i := 1043) (by decide +kernel) (by decide +kernel), rfl, rfl⟩
theorem ff_X12_153 : jF RX12 153 12 53 8 0 (.int) false := ⟨RX12, TX12, tyX12, wc_X12, by decide, by decide, by decide, rfl, jw_t (i := 1044) (by decide +kernel) (by decide +kernel), rfl, rfl⟩
theorem ff_X12_27 : jF RX12 27 12 53 9 2 (.array .int) true := ⟨RX12, TX12, tyX12, wc_X12, by decide, by decide, by decide, rfl, jw_t (i := 1045) (by decide +kernel) (by decide +kernel), rfl, rfl⟩
theorem ff_X12_158 : jF RX12 158 12 53 10 0 (.int) false := ⟨RX12, TX12, tyX12, wc_X12, by decide, by decide, by decide, rfl, jw_t (i := 1046) (by decide +kernel) (by decide +kernel), rfl, rfl⟩
theorem ff_X12_30 : jF RX12 30 12 53 11 2 (.array .int) true := ⟨RX12, TX12, tyX12, wc_X12, by decide, by decide, by decide, rfl, jw_t (i := 1047) (by decide +kernel) (by decide +kernel), rfl, rfl⟩
theorem ff_X12_81 : jF RX12 81 12 53 12 0 (.int) false := ⟨RX12, TX12, tyX12, wc_X12, by decide, by decide, by decide, rfl, jw_t (i := 1048) (by decide +kernel) (by decide +kernel), rfl, rfl⟩
theorem ff_X12_167 : jF RX12 167 12 53 13 0 (.int) false := ⟨RX12, TX12, tyX12, wc_X12, by decide, by decide, by decide, rfl, jw_t (i := 1049) (by decide +kernel) (by decide +kernel), rfl, rfl⟩
theorem ff_X12_161 : jF RX12 161 12 53 14 0 (.int) false := ⟨RX12, TX12, tyX12, wc_X12, by decide, by decide, by decide, rfl, jw_t (i := 1050) (by decide +kernel) (by decide +kernel), rfl, rfl⟩
theorem ff_X12_164 : jF RX12 164 12 53 15 0 (.int) false := ⟨RX12, TX12, tyX12, wc_X12, by decide, by decide, by decide, rfl, jw_t (i := 1051) (by decide +kernel) (by decide +kernel), rfl, rfl⟩
theorem ff_X12_170 : jF RX12 170 12 53 16 0 (.int) false := ⟨RX12, TX12, tyX12, wc_X12, by decide, by decide, by decide, rfl, jw_t (i := 1052) (by decide +kernel) (by decide +kernel), rfl, rfl⟩
theorem ff_X12_195 : jF RX12 195 12 53 17 0 (.int) false := ⟨RX12, TX12, tyX12, wc_X12, by decide, by decide, by decide, rfl, jw_t (i := 1053) (by decide +kernel) (by decide +kernel), rfl, rfl⟩
theorem ff_X12_33 : jF RX12 33 12 53 18 2 (.array .int) true := ⟨RX12, TX12, tyX12, wc_X12, by decide, by decide, by decide, rfl, jw_t (i := 1054) (by decide +kernel) (by decide +kernel), rfl, rfl⟩
theorem ff_X12_36 : jF RX12 36 12 53 19 2 (.array .int) true := ⟨RX12, TX12, tyX12, wc_X12, by decide, by decide, by decide, rfl, jw_t (i := 1055) (by decide +kernel) (by decide +kernel), rfl, rfl⟩
theorem ff_X12_210 : jF RX12 210 12 53 20 0 (.int) false := ⟨RX12, TX12, tyX12, wc_X12, by decide, by decide, by decide, rfl, jw_t (i := 1056) (by decide +kernel) (by decide +kernel), rfl, rfl⟩
theorem ff_X12_216 : jF RX12 216 12 53 21 0 (.int) false := ⟨RX12, TX12, tyX12, wc_X12, by decide, by decide, by decide, rfl, jw_t (i := 1057) (by decide +kernel) (by decide +kernel), rfl, rfl⟩
theorem ff_X12_213 : jF RX12 213 12 53 22 0 (.int) false := ⟨RX12, TX12, tyX12, wc_X12, by decide, by decide, by decide, rfl, jw_t (i := 1058) (by decide +kernel) (by decide +kernel), rfl, rfl⟩
theorem ff_X12_39 : jF RX12 39 12 53 23 0 (.int) false := ⟨RX12, TX12, tyX12, wc_X12, by decide, by decide, by decide, rfl, jw_t (i := 1059) (by decide +kernel) (by decide +kernel), rfl, rfl⟩
theorem ff_X12_232 : jF RX12 232 12 53 24 0 (.int) false := ⟨RX12, TX12, tyX12, wc_X12, by decide, by decide, by decide, rfl, jw_t (i := 1060) (by decide +kernel) (by decide +kernel), rfl, rfl⟩
theorem ff_X12_243 : jF RX12 243 12 53 25 0 (.int) false := ⟨RX12, TX12, tyX12, wc_X12, by decide, by decide, by decide, rfl, jw_t (i := 1061) (by decide +kernel) (by decide +kernel), rfl, rfl⟩
theorem ff_X12_43 : jF RX12 43 12 53 26 2 (.array .int) true := ⟨RX12, TX12, tyX12, wc_X12, by decide, by decide, by decide, rfl, jw_t (i := 1062) (by decide +kernel) (by decide +kernel), rfl, rfl⟩
theorem ff_X12_46 : jF RX12 46 12 53 27 2 (.array .int) true := ⟨RX12, TX12, tyX12, wc_X12, by decide, by decide, by decide, rfl, jw_t (i := 1063) (by decide +kernel) (by decide +kernel), rfl, rfl⟩
theorem ff_X12_265 : jF RX12 265 12 53 28 0 (.int) false := ⟨RX12, TX12, tyX12, wc_X12, by decide, by decide, by decide, rfl, jw_t (i := 1064) (by decide +kernel) (by decide +kernel), rfl, rfl⟩
theorem ff_X12_49 : jF RX12 49 12 53 29 2 (.array .int) true := ⟨RX12, TX12, tyX12, wc_X12, by decide, by decide, by decide, rfl, jw_t (i := 1065) (by decide +kernel) (by decide +kernel), rfl, rfl⟩
theorem ff_X12_283 : jF RX12 283 12 53 30 0 (.boolean) false := ⟨RX12, TX12, tyX12, wc_X12, by decide, by decide, by decide, rfl, jw_t (i := 1066) (by decide +kernel) (by decide +kernel), rfl, rfl⟩
theorem ff_X12_290 : jF RX12 290 12 53 31 0 (.int) false := ⟨RX12, TX12, tyX12, wc_X12, by decide, by decide, by decide, rfl, jw_t (i := 1067) (by decide +kernel) (by decide +kernel), rfl, rfl⟩
theorem ff_X12_296 : jF RX12 296 12 53 32 0 (.boolean) false := ⟨RX12, TX12, tyX12, wc_X12, by decide, by decide, by decide, rfl, jw_t (i := 1068) (by decide +kernel) (by decide +kernel), rfl, rfl⟩
theorem ff_X12_52 : jF RX12 52 12 53 33 2 (.array .int) true := ⟨RX12, TX12, tyX12, wc_X12, by decide, by decide, by decide, rfl, jw_t (i := 1069) (by decide +kernel) (by decide +kernel), rfl, rfl⟩
theorem ff_X12_305 : jF RX12 305 12 53 34 0 (.int) false := ⟨RX12, TX12, tyX12, wc_X12, by decide, by decide, by decide, rfl, jw_t (i := 1070) (by decide +kernel) (by decide +kernel), rfl, rfl⟩
theorem ff_X12_55 : jF RX12 55 12 53 35 2 (.array .boolean) true := ⟨RX12, TX12, tyX12, wc_X12, by decide, by decide, by decide, rfl, jw_t (i := 1071) (by decide +kernel) (by decide +kernel), rfl, rfl⟩
theorem ff_X12_349 : jF RX12 349 12 53 36 0 (.int) false := ⟨RX12, TX12, tyX12, wc_X12, by decide, by decide, by decide, rfl, jw_t (i := 1072) (by decide +kernel) (by decide +kernel), rfl, rfl⟩
theorem ff_X12_352 : jF RX12 352 12 53 37 0 (.int) false := ⟨RX12, TX12, tyX12, wc_X12, by decide, by decide, by decide, rfl, jw_t (i := 1073) (by decide +kernel) (by decide +kernel), rfl, rfl⟩
theorem ff_X12_355 : jF RX12 355 12 53 38 0 (.int) false := ⟨RX12, TX12, tyX12, wc_X12, by decide, by decide, by decide, rfl, jw_t (i := 1074) (by decide +kernel) (by decide +kernel), rfl, rfl⟩
theorem ff_X12_358 : jF RX12 358 12 53 39 0 (.int) false := ⟨RX12, TX12, tyX12, wc_X12, by decide, by decide, by decide, rfl, jw_t (i := 1075) (by decide +kernel) (by decide +kernel), rfl, rfl⟩
theorem ff_X12_84 : jF RX12 84 12 53 40 0 (.int) false := ⟨RX12, TX12, tyX12, wc_X12, by decide, by decide, by decide, rfl, jw_t (i := 1076) (by decide +kernel) (by decide +kernel), rfl, rfl⟩
theorem ff_X12_361 : jF RX12 361 12 53 41 0 (.boolean) false := ⟨RX12, TX12, tyX12, wc_X12, by decide, by decide, by decide, rfl, jw_t (i := 1077) (by decide +kernel) (by decide +kernel), rfl, rfl⟩
theorem ff_X12_59 : jF RX12 59 12 53 42 2 (.array .int) true := ⟨RX12, TX12, tyX12, wc_X12, by decide, by decide, by decide, rfl, jw_t (i := 1078) (by decide +kernel) (by decide +kernel), rfl, rfl⟩
theorem ff_X12_367 : jF RX12 367 12 53 43 0 (.int) false := ⟨RX12, TX12, tyX12, wc_X12, by decide, by decide, by decide, rfl, jw_t (i := 1079) (by decide +kernel) (by decide +kernel), rfl, rfl⟩
theorem ff_X12_62 : jF RX12 62 12 53 44 2 (.array .int) true := ⟨RX12, TX12, tyX12, wc_X12, by decide, by decide, by decide, rfl, jw_t (i := 1080) (by decide +kernel) (by decide +kernel), rfl, rfl⟩
theorem ff_X12_65 : jF RX12 65 12 53 45 2 (.array .int) true := ⟨RX12, TX12, tyX12, wc_X12, by decide, by decide, by decide, rfl, jw_t (i := 1081) (by decide +kernel) (by decide +kernel), rfl, rfl⟩
theorem ff_X12_370 : jF RX12 370 12 53 46 0 (.int) false := ⟨RX12, TX12, tyX12, wc_X12, by decide, by decide, by decide, rfl, jw_t (i := 1082) (by decide +kernel) (by decide +kernel), rfl, rfl⟩
theorem ff_X12_385 : jF RX12 385 12 53 47 0 (.int) false := ⟨RX12, TX12, tyX12, wc_X12, by decide, by decide, by decide, rfl, jw_t (i := 1083) (by decide +kernel) (by decide +kernel), rfl, rfl⟩
theorem ff_X12_379 : jF RX12 379 12 53 48 0 (.int) false := ⟨RX12, TX12, tyX12, wc_X12, by decide, by decide, by decide, rfl, jw_t (i := 1084) (by decide +kernel) (by decide +kernel), rfl, rfl⟩
theorem ff_X12_68 : jF RX12 68 12 53 49 2 (.array .int) true := ⟨RX12, TX12, tyX12, wc_X12, by decide, by decide, by decide, rfl, jw_t (i := 1085) (by decide +kernel) (by decide +kernel), rfl, rfl⟩
theorem ff_X12_71 : jF RX12 71 12 53 50 2 (.array .int) true := ⟨RX12, TX12, tyX12, wc_X12, by decide, by decide, by decide, rfl, jw_t (i := 1086) (by decide +kernel) (by decide +kernel), rfl, rfl⟩
theorem ff_X12_74 : jF RX12 74 12 53 51 2 (.array .long) true := ⟨RX12, TX12, tyX12, wc_X12, by decide, by decide, by decide, rfl, jw_t (i := 1087) (by decide +kernel) (by decide +kernel), rfl, rfl⟩
theorem ff_X12_78 : jF RX12 78 12 53 52 2 (.array .long) true := ⟨RX12, TX12, tyX12, wc_X12, by decide, by decide, by decide, rfl, jw_t (i := 1088) (by decide +kernel) (by decide +kernel), rfl, rfl⟩
theorem fs_X7_16 : Cond.fieldLink RX7 16 "HeaviestLast$Pond" "FIRST" "[I" ∈ jWS := jw_t (i := 33) (by decide +kernel) (by decide +kernel)
theorem fs_X7_30 : Cond.fieldLink RX7 30 "HeaviestLast$Pond" "LEAST" "[I" ∈ jWS := jw_t (i := 369) (by decide +kernel) (by decide +kernel)
theorem fs_X7_33 : Cond.fieldLink RX7 33 "HeaviestLast$Pond" "MOST" "[I" ∈ jWS := jw_t (i := 371) (by decide +kernel) (by decide +kernel)
theorem fs_X0_46 : Cond.fieldLink RX0 46 "HeaviestLast$Acts" "BODIES" "[I" ∈ jWS := jw_t (i := 933) (by decide +kernel) (by decide +kernel)
theorem fs_X0_32 : Cond.fieldLink RX0 32 "HeaviestLast$Acts" "ABOVE" "[I" ∈ jWS := jw_t (i := 938) (by decide +kernel) (by decide +kernel)
def mX0_init : MethodName × ByteArray × Nat × Option FieldType := (yX0_init, cX0_init, 1, none)
theorem wd_X0_init : Cond.code yX0_init cX0_init 1 none ∈ jWS := jw_t (i := 310) (by decide +kernel) (by decide +kernel)
theorem wm_X0_init : Cond.instanceMethod yX0_init ∈ jWS := jw_t (i := 309) (by decide +kernel) (by decide +kernel)
def mX0_add : MethodName × ByteArray × Nat × Option FieldType := (yX0_add, cX0_add, 2, (some .int))
theorem wd_X0_add : Cond.code yX0_add cX0_add 2 (some .int) ∈ jWS := jw_t (i := 909) (by decide +kernel) (by decide +kernel)
theorem wm_X0_add : Cond.instanceMethod yX0_add ∈ jWS := jw_t (i := 907) (by decide +kernel) (by decide +kernel)
theorem wv_X0_add : Cond.selects yX0_add.cls yX0_add yX0_add ∈ jWS := jw_t (i := 908) (by decide +kernel) (by decide +kernel)
def mX0_kindOf : MethodName × ByteArray × Nat × Option FieldType := (yX0_kindOf, cX0_kindOf, 2, (some .int))
theorem wd_X0_kindOf : Cond.code yX0_kindOf cX0_kindOf 2 (some .int) ∈ jWS := jw_t (i := 921) (by decide +kernel) (by decide +kernel)
theorem wm_X0_kindOf : Cond.instanceMethod yX0_kindOf ∈ jWS := jw_t (i := 919) (by decide +kernel) (by decide +kernel)
theorem wv_X0_kindOf : Cond.selects yX0_kindOf.cls yX0_kindOf yX0_kindOf ∈ jWS := jw_t (i := 920) (by decide +kernel) (by decide +kernel)
def mX0_above : MethodName × ByteArray × Nat × Option FieldType := (yX0_above, cX0_above, 1, (some .int))
theorem wd_X0_above : Cond.code yX0_above cX0_above 1 (some .int) ∈ jWS := jw_t (i := 937) (by decide +kernel) (by decide +kernel)
theorem wz_X0_above : Cond.static yX0_above ∈ jWS := jw_t (i := 936) (by decide +kernel) (by decide +kernel)
def mX0_isUnder : MethodName × ByteArray × Nat × Option FieldType := (yX0_isUnder, cX0_isUnder, 5, (some .boolean))
theorem wd_X0_isUnder : Cond.code yX0_isUnder cX0_isUnder 5 (some .boolean) ∈ jWS := jw_t (i := 1021) (by decide +kernel) (by decide +kernel)
theorem wm_X0_isUnder : Cond.instanceMethod yX0_isUnder ∈ jWS := jw_t (i := 1019) (by decide +kernel) (by decide +kernel)
theorem wv_X0_isUnder : Cond.selects yX0_isUnder.cls yX0_isUnder yX0_isUnder ∈ jWS := jw_t (i := 1020) (by decide +kernel) (by decide +kernel)
def mX0_start : MethodName × ByteArray × Nat × Option FieldType := (yX0_start, cX0_start, 5, (some .int))
theorem wd_X0_start : Cond.code yX0_start cX0_start 5 (some .int) ∈ jWS := jw_t (i := 917) (by decide +kernel) (by decide +kernel)
theorem wm_X0_start : Cond.instanceMethod yX0_start ∈ jWS := jw_t (i := 915) (by decide +kernel) (by decide +kernel)
theorem wv_X0_start : Cond.selects yX0_start.cls yX0_start yX0_start ∈ jWS := jw_t (i := 916) (by decide +kernel) (by decide +kernel)
def mX0_traced : MethodName × ByteArray × Nat × Option FieldType := (yX0_traced, cX0_traced, 2, (some .int))
theorem wd_X0_traced : Cond.code yX0_traced cX0_traced 2 (some .int) ∈ jWS := jw_t (i := 951) (by decide +kernel) (by decide +kernel)
theorem wm_X0_traced : Cond.instanceMethod yX0_traced ∈ jWS := jw_t (i := 949) (by decide +kernel) (by decide +kernel)
theorem wv_X0_traced : Cond.selects yX0_traced.cls yX0_traced yX0_traced ∈ jWS := jw_t (i := 950) (by decide +kernel) (by decide +kernel)
def mX0_note : MethodName × ByteArray × Nat × Option FieldType := (yX0_note, cX0_note, 2, none)
theorem wd_X0_note : Cond.code yX0_note cX0_note 2 none ∈ jWS := jw_t (i := 943) (by decide +kernel) (by decide +kernel)
theorem wm_X0_note : Cond.instanceMethod yX0_note ∈ jWS := jw_t (i := 942) (by decide +kernel) (by decide +kernel)
theorem wv_X0_note : Cond.selects yX0_note.cls yX0_note yX0_note ∈ jWS := jw_p (i := 29) (by decide +kernel) (by decide +kernel)
def mX0_bodyOf : MethodName × ByteArray × Nat × Option FieldType := (yX0_bodyOf, cX0_bodyOf, 2, (some .int))
theorem wd_X0_bodyOf : Cond.code yX0_bodyOf cX0_bodyOf 2 (some .int) ∈ jWS := jw_t (i := 931) (by decide +kernel) (by decide +kernel)
theorem wz_X0_bodyOf : Cond.static yX0_bodyOf ∈ jWS := jw_t (i := 930) (by decide +kernel) (by decide +kernel)
def mX0_homeOf : MethodName × ByteArray × Nat × Option FieldType := (yX0_homeOf, cX0_homeOf, 4, (some .int))
theorem wd_X0_homeOf : Cond.code yX0_homeOf cX0_homeOf 4 (some .int) ∈ jWS := jw_t (i := 928) (by decide +kernel) (by decide +kernel)
theorem wz_X0_homeOf : Cond.static yX0_homeOf ∈ jWS := jw_t (i := 927) (by decide +kernel) (by decide +kernel)
def mX0_run : MethodName × ByteArray × Nat × Option FieldType := (yX0_run, cX0_run, 10, (some .int))
theorem wd_X0_run : Cond.code yX0_run cX0_run 10 (some .int) ∈ jWS := jw_t (i := 925) (by decide +kernel) (by decide +kernel)
theorem wm_X0_run : Cond.instanceMethod yX0_run ∈ jWS := jw_t (i := 924) (by decide +kernel) (by decide +kernel)
theorem wv_X0_run : Cond.selects yX0_run.cls yX0_run yX0_run ∈ jWS := jw_p (i := 28) (by decide +kernel) (by decide +kernel)
def mX1_init : MethodName × ByteArray × Nat × Option FieldType := (yX1_init, cX1_init, 3, none)
theorem wd_X1_init : Cond.code yX1_init cX1_init 3 none ∈ jWS := jw_t (i := 263) (by decide +kernel) (by decide +kernel)
theorem wm_X1_init : Cond.instanceMethod yX1_init ∈ jWS := jw_t (i := 262) (by decide +kernel) (by decide +kernel)
def mX1_look : MethodName × ByteArray × Nat × Option FieldType := (yX1_look, cX1_look, 9, none)
theorem wd_X1_look : Cond.code yX1_look cX1_look 9 none ∈ jWS := jw_t (i := 756) (by decide +kernel) (by decide +kernel)
theorem wm_X1_look : Cond.instanceMethod yX1_look ∈ jWS := jw_t (i := 754) (by decide +kernel) (by decide +kernel)
theorem wv_X1_look : Cond.selects yX1_look.cls yX1_look yX1_look ∈ jWS := jw_t (i := 755) (by decide +kernel) (by decide +kernel)
def mX1_holdsAll : MethodName × ByteArray × Nat × Option FieldType := (yX1_holdsAll, cX1_holdsAll, 6, (some .boolean))
theorem wd_X1_holdsAll : Cond.code yX1_holdsAll cX1_holdsAll 6 (some .boolean) ∈ jWS := jw_t (i := 761) (by decide +kernel) (by decide +kernel)
theorem wm_X1_holdsAll : Cond.instanceMethod yX1_holdsAll ∈ jWS := jw_t (i := 760) (by decide +kernel) (by decide +kernel)
theorem wv_X1_holdsAll : Cond.selects yX1_holdsAll.cls yX1_holdsAll yX1_holdsAll ∈ jWS := jw_p (i := 25) (by decide +kernel) (by decide +kernel)
def mX1_likely : MethodName × ByteArray × Nat × Option FieldType := (yX1_likely, cX1_likely, 1, (some .long))
theorem wd_X1_likely : Cond.code yX1_likely cX1_likely 1 (some .long) ∈ jWS := jw_t (i := 774) (by decide +kernel) (by decide +kernel)
theorem wm_X1_likely : Cond.instanceMethod yX1_likely ∈ jWS := jw_t (i := 772) (by decide +kernel) (by decide +kernel)
theorem wv_X1_likely : Cond.selects yX1_likely.cls yX1_likely yX1_likely ∈ jWS := jw_t (i := 773) (by decide +kernel) (by decide +kernel)
def mX1_likelyBored : MethodName × ByteArray × Nat × Option FieldType := (yX1_likelyBored, cX1_likelyBored, 5, (some .long))
theorem wd_X1_likelyBored : Cond.code yX1_likelyBored cX1_likelyBored 5 (some .long) ∈ jWS := jw_t (i := 778) (by decide +kernel) (by decide +kernel)
theorem wm_X1_likelyBored : Cond.instanceMethod yX1_likelyBored ∈ jWS := jw_t (i := 776) (by decide +kernel) (by decide +kernel)
theorem wv_X1_likelyBored : Cond.selects yX1_likelyBored.cls yX1_likelyBored yX1_likelyBored ∈ jWS := jw_t (i := 777) (by decide +kernel) (by decide +kernel)
def mX1_bestBored : MethodName × ByteArray × Nat × Option FieldType := (yX1_bestBored, cX1_bestBored, 3, (some .int))
theorem wd_X1_bestBored : Cond.code yX1_bestBored cX1_bestBored 3 (some .int) ∈ jWS := jw_t (i := 794) (by decide +kernel) (by decide +kernel)
theorem wm_X1_bestBored : Cond.instanceMethod yX1_bestBored ∈ jWS := jw_t (i := 792) (by decide +kernel) (by decide +kernel)
theorem wv_X1_bestBored : Cond.selects yX1_bestBored.cls yX1_bestBored yX1_bestBored ∈ jWS := jw_t (i := 793) (by decide +kernel) (by decide +kernel)
def mX1_part : MethodName × ByteArray × Nat × Option FieldType := (yX1_part, cX1_part, 6, (some .long))
theorem wd_X1_part : Cond.code yX1_part cX1_part 6 (some .long) ∈ jWS := jw_t (i := 782) (by decide +kernel) (by decide +kernel)
theorem wm_X1_part : Cond.instanceMethod yX1_part ∈ jWS := jw_t (i := 780) (by decide +kernel) (by decide +kernel)
theorem wv_X1_part : Cond.selects yX1_part.cls yX1_part yX1_part ∈ jWS := jw_t (i := 781) (by decide +kernel) (by decide +kernel)
def mX1_common : MethodName × ByteArray × Nat × Option FieldType := (yX1_common, cX1_common, 11, (some .long))
theorem wd_X1_common : Cond.code yX1_common cX1_common 11 (some .long) ∈ jWS := jw_t (i := 786) (by decide +kernel) (by decide +kernel)
theorem wz_X1_common : Cond.static yX1_common ∈ jWS := jw_t (i := 785) (by decide +kernel) (by decide +kernel)
def mX2_init : MethodName × ByteArray × Nat × Option FieldType := (yX2_init, cX2_init, 1, none)
theorem wd_X2_init : Cond.code yX2_init cX2_init 1 none ∈ jWS := jw_t (i := 54) (by decide +kernel) (by decide +kernel)
theorem wm_X2_init : Cond.instanceMethod yX2_init ∈ jWS := jw_t (i := 53) (by decide +kernel) (by decide +kernel)
def mX2_add : MethodName × ByteArray × Nat × Option FieldType := (yX2_add, cX2_add, 5, none)
theorem wd_X2_add : Cond.code yX2_add cX2_add 5 none ∈ jWS := jw_t (i := 434) (by decide +kernel) (by decide +kernel)
theorem wm_X2_add : Cond.instanceMethod yX2_add ∈ jWS := jw_t (i := 432) (by decide +kernel) (by decide +kernel)
theorem wv_X2_add : Cond.selects yX2_add.cls yX2_add yX2_add ∈ jWS := jw_t (i := 433) (by decide +kernel) (by decide +kernel)
def mX2_dropOldest : MethodName × ByteArray × Nat × Option FieldType := (yX2_dropOldest, cX2_dropOldest, 2, none)
theorem wd_X2_dropOldest : Cond.code yX2_dropOldest cX2_dropOldest 2 none ∈ jWS := jw_t (i := 438) (by decide +kernel) (by decide +kernel)
theorem wm_X2_dropOldest : Cond.instanceMethod yX2_dropOldest ∈ jWS := jw_t (i := 437) (by decide +kernel) (by decide +kernel)
theorem wv_X2_dropOldest : Cond.selects yX2_dropOldest.cls yX2_dropOldest yX2_dropOldest ∈ jWS := jw_p (i := 1) (by decide +kernel) (by decide +kernel)
def mX2_undoIn : MethodName × ByteArray × Nat × Option FieldType := (yX2_undoIn, cX2_undoIn, 2, (some .boolean))
theorem wd_X2_undoIn : Cond.code yX2_undoIn cX2_undoIn 2 (some .boolean) ∈ jWS := jw_t (i := 889) (by decide +kernel) (by decide +kernel)
theorem wm_X2_undoIn : Cond.instanceMethod yX2_undoIn ∈ jWS := jw_t (i := 887) (by decide +kernel) (by decide +kernel)
theorem wv_X2_undoIn : Cond.selects yX2_undoIn.cls yX2_undoIn yX2_undoIn ∈ jWS := jw_t (i := 888) (by decide +kernel) (by decide +kernel)
def mX2_redoIn : MethodName × ByteArray × Nat × Option FieldType := (yX2_redoIn, cX2_redoIn, 2, (some .boolean))
theorem wd_X2_redoIn : Cond.code yX2_redoIn cX2_redoIn 2 (some .boolean) ∈ jWS := jw_t (i := 898) (by decide +kernel) (by decide +kernel)
theorem wm_X2_redoIn : Cond.instanceMethod yX2_redoIn ∈ jWS := jw_t (i := 896) (by decide +kernel) (by decide +kernel)
theorem wv_X2_redoIn : Cond.selects yX2_redoIn.cls yX2_redoIn yX2_redoIn ∈ jWS := jw_t (i := 897) (by decide +kernel) (by decide +kernel)
def mX3_init : MethodName × ByteArray × Nat × Option FieldType := (yX3_init, cX3_init, 3, none)
theorem wd_X3_init : Cond.code yX3_init cX3_init 3 none ∈ jWS := jw_t (i := 119) (by decide +kernel) (by decide +kernel)
theorem wm_X3_init : Cond.instanceMethod yX3_init ∈ jWS := jw_t (i := 118) (by decide +kernel) (by decide +kernel)
def mX3_layStrength : MethodName × ByteArray × Nat × Option FieldType := (yX3_layStrength, cX3_layStrength, 2, none)
theorem wd_X3_layStrength : Cond.code yX3_layStrength cX3_layStrength 2 none ∈ jWS := jw_t (i := 452) (by decide +kernel) (by decide +kernel)
theorem wm_X3_layStrength : Cond.instanceMethod yX3_layStrength ∈ jWS := jw_t (i := 450) (by decide +kernel) (by decide +kernel)
theorem wv_X3_layStrength : Cond.selects yX3_layStrength.cls yX3_layStrength yX3_layStrength ∈ jWS := jw_t (i := 451) (by decide +kernel) (by decide +kernel)
def mX3_follow : MethodName × ByteArray × Nat × Option FieldType := (yX3_follow, cX3_follow, 3, none)
theorem wd_X3_follow : Cond.code yX3_follow cX3_follow 3 none ∈ jWS := jw_t (i := 555) (by decide +kernel) (by decide +kernel)
theorem wm_X3_follow : Cond.instanceMethod yX3_follow ∈ jWS := jw_t (i := 553) (by decide +kernel) (by decide +kernel)
theorem wv_X3_follow : Cond.selects yX3_follow.cls yX3_follow yX3_follow ∈ jWS := jw_t (i := 554) (by decide +kernel) (by decide +kernel)
def mX3_thin : MethodName × ByteArray × Nat × Option FieldType := (yX3_thin, cX3_thin, 3, none)
theorem wd_X3_thin : Cond.code yX3_thin cX3_thin 3 none ∈ jWS := jw_t (i := 766) (by decide +kernel) (by decide +kernel)
theorem wm_X3_thin : Cond.instanceMethod yX3_thin ∈ jWS := jw_t (i := 764) (by decide +kernel) (by decide +kernel)
theorem wv_X3_thin : Cond.selects yX3_thin.cls yX3_thin yX3_thin ∈ jWS := jw_t (i := 765) (by decide +kernel) (by decide +kernel)
def mX3_draw : MethodName × ByteArray × Nat × Option FieldType := (yX3_draw, cX3_draw, 7, (some .int))
theorem wd_X3_draw : Cond.code yX3_draw cX3_draw 7 (some .int) ∈ jWS := jw_t (i := 840) (by decide +kernel) (by decide +kernel)
theorem wm_X3_draw : Cond.instanceMethod yX3_draw ∈ jWS := jw_t (i := 838) (by decide +kernel) (by decide +kernel)
theorem wv_X3_draw : Cond.selects yX3_draw.cls yX3_draw yX3_draw ∈ jWS := jw_t (i := 839) (by decide +kernel) (by decide +kernel)
def mX3_bearing : MethodName × ByteArray × Nat × Option FieldType := (yX3_bearing, cX3_bearing, 6, (some .int))
theorem wd_X3_bearing : Cond.code yX3_bearing cX3_bearing 6 (some .int) ∈ jWS := jw_t (i := 462) (by decide +kernel) (by decide +kernel)
theorem wm_X3_bearing : Cond.instanceMethod yX3_bearing ∈ jWS := jw_t (i := 460) (by decide +kernel) (by decide +kernel)
theorem wv_X3_bearing : Cond.selects yX3_bearing.cls yX3_bearing yX3_bearing ∈ jWS := jw_t (i := 461) (by decide +kernel) (by decide +kernel)
def mX3_ready : MethodName × ByteArray × Nat × Option FieldType := (yX3_ready, cX3_ready, 4, none)
theorem wd_X3_ready : Cond.code yX3_ready cX3_ready 4 none ∈ jWS := jw_t (i := 572) (by decide +kernel) (by decide +kernel)
theorem wm_X3_ready : Cond.instanceMethod yX3_ready ∈ jWS := jw_t (i := 570) (by decide +kernel) (by decide +kernel)
theorem wv_X3_ready : Cond.selects yX3_ready.cls yX3_ready yX3_ready ∈ jWS := jw_t (i := 571) (by decide +kernel) (by decide +kernel)
def mX3_weaker : MethodName × ByteArray × Nat × Option FieldType := (yX3_weaker, cX3_weaker, 5, (some .int))
theorem wd_X3_weaker : Cond.code yX3_weaker cX3_weaker 5 (some .int) ∈ jWS := jw_t (i := 581) (by decide +kernel) (by decide +kernel)
theorem wm_X3_weaker : Cond.instanceMethod yX3_weaker ∈ jWS := jw_t (i := 580) (by decide +kernel) (by decide +kernel)
theorem wv_X3_weaker : Cond.selects yX3_weaker.cls yX3_weaker yX3_weaker ∈ jWS := jw_p (i := 11) (by decide +kernel) (by decide +kernel)
def mX3_steps : MethodName × ByteArray × Nat × Option FieldType := (yX3_steps, cX3_steps, 6, (some .boolean))
theorem wd_X3_steps : Cond.code yX3_steps cX3_steps 6 (some .boolean) ∈ jWS := jw_t (i := 576) (by decide +kernel) (by decide +kernel)
theorem wm_X3_steps : Cond.instanceMethod yX3_steps ∈ jWS := jw_t (i := 574) (by decide +kernel) (by decide +kernel)
theorem wv_X3_steps : Cond.selects yX3_steps.cls yX3_steps yX3_steps ∈ jWS := jw_t (i := 575) (by decide +kernel) (by decide +kernel)
def mX3_passBehind : MethodName × ByteArray × Nat × Option FieldType := (yX3_passBehind, cX3_passBehind, 2, none)
theorem wd_X3_passBehind : Cond.code yX3_passBehind cX3_passBehind 2 none ∈ jWS := jw_t (i := 605) (by decide +kernel) (by decide +kernel)
theorem wm_X3_passBehind : Cond.instanceMethod yX3_passBehind ∈ jWS := jw_t (i := 603) (by decide +kernel) (by decide +kernel)
theorem wv_X3_passBehind : Cond.selects yX3_passBehind.cls yX3_passBehind yX3_passBehind ∈ jWS := jw_t (i := 604) (by decide +kernel) (by decide +kernel)
def mX3_pass : MethodName × ByteArray × Nat × Option FieldType := (yX3_pass, cX3_pass, 5, none)
theorem wd_X3_pass : Cond.code yX3_pass cX3_pass 5 none ∈ jWS := jw_t (i := 609) (by decide +kernel) (by decide +kernel)
theorem wm_X3_pass : Cond.instanceMethod yX3_pass ∈ jWS := jw_t (i := 607) (by decide +kernel) (by decide +kernel)
theorem wv_X3_pass : Cond.selects yX3_pass.cls yX3_pass yX3_pass ∈ jWS := jw_t (i := 608) (by decide +kernel) (by decide +kernel)
def mX3_cross : MethodName × ByteArray × Nat × Option FieldType := (yX3_cross, cX3_cross, 9, (some .int))
theorem wd_X3_cross : Cond.code yX3_cross cX3_cross 9 (some .int) ∈ jWS := jw_t (i := 568) (by decide +kernel) (by decide +kernel)
theorem wm_X3_cross : Cond.instanceMethod yX3_cross ∈ jWS := jw_t (i := 566) (by decide +kernel) (by decide +kernel)
theorem wv_X3_cross : Cond.selects yX3_cross.cls yX3_cross yX3_cross ∈ jWS := jw_t (i := 567) (by decide +kernel) (by decide +kernel)
def mX3_firstWait : MethodName × ByteArray × Nat × Option FieldType := (yX3_firstWait, cX3_firstWait, 5, (some .int))
theorem wd_X3_firstWait : Cond.code yX3_firstWait cX3_firstWait 5 (some .int) ∈ jWS := jw_t (i := 677) (by decide +kernel) (by decide +kernel)
theorem wm_X3_firstWait : Cond.instanceMethod yX3_firstWait ∈ jWS := jw_t (i := 675) (by decide +kernel) (by decide +kernel)
theorem wv_X3_firstWait : Cond.selects yX3_firstWait.cls yX3_firstWait yX3_firstWait ∈ jWS := jw_t (i := 676) (by decide +kernel) (by decide +kernel)
def mX3_holdsBehind : MethodName × ByteArray × Nat × Option FieldType := (yX3_holdsBehind, cX3_holdsBehind, 5, (some .boolean))
theorem wd_X3_holdsBehind : Cond.code yX3_holdsBehind cX3_holdsBehind 5 (some .boolean) ∈ jWS := jw_t (i := 681) (by decide +kernel) (by decide +kernel)
theorem wm_X3_holdsBehind : Cond.instanceMethod yX3_holdsBehind ∈ jWS := jw_t (i := 680) (by decide +kernel) (by decide +kernel)
theorem wv_X3_holdsBehind : Cond.selects yX3_holdsBehind.cls yX3_holdsBehind yX3_holdsBehind ∈ jWS := jw_p (i := 20) (by decide +kernel) (by decide +kernel)
def mX4_init : MethodName × ByteArray × Nat × Option FieldType := (yX4_init, cX4_init, 1, none)
theorem wd_X4_init : Cond.code yX4_init cX4_init 1 none ∈ jWS := jw_t (i := 144) (by decide +kernel) (by decide +kernel)
theorem wm_X4_init : Cond.instanceMethod yX4_init ∈ jWS := jw_t (i := 143) (by decide +kernel) (by decide +kernel)
def mX4_lead : MethodName × ByteArray × Nat × Option FieldType := (yX4_lead, cX4_lead, 3, none)
theorem wd_X4_lead : Cond.code yX4_lead cX4_lead 3 none ∈ jWS := jw_t (i := 850) (by decide +kernel) (by decide +kernel)
theorem wm_X4_lead : Cond.instanceMethod yX4_lead ∈ jWS := jw_t (i := 848) (by decide +kernel) (by decide +kernel)
theorem wv_X4_lead : Cond.selects yX4_lead.cls yX4_lead yX4_lead ∈ jWS := jw_t (i := 849) (by decide +kernel) (by decide +kernel)
def mX4_told : MethodName × ByteArray × Nat × Option FieldType := (yX4_told, cX4_told, 2, (some .int))
theorem wd_X4_told : Cond.code yX4_told cX4_told 2 (some .int) ∈ jWS := jw_t (i := 864) (by decide +kernel) (by decide +kernel)
theorem wm_X4_told : Cond.instanceMethod yX4_told ∈ jWS := jw_t (i := 862) (by decide +kernel) (by decide +kernel)
theorem wv_X4_told : Cond.selects yX4_told.cls yX4_told yX4_told ∈ jWS := jw_t (i := 863) (by decide +kernel) (by decide +kernel)
def mX4_keepImage : MethodName × ByteArray × Nat × Option FieldType := (yX4_keepImage, cX4_keepImage, 1, none)
theorem wd_X4_keepImage : Cond.code yX4_keepImage cX4_keepImage 1 none ∈ jWS := jw_t (i := 872) (by decide +kernel) (by decide +kernel)
theorem wm_X4_keepImage : Cond.instanceMethod yX4_keepImage ∈ jWS := jw_t (i := 870) (by decide +kernel) (by decide +kernel)
theorem wv_X4_keepImage : Cond.selects yX4_keepImage.cls yX4_keepImage yX4_keepImage ∈ jWS := jw_t (i := 871) (by decide +kernel) (by decide +kernel)
def mX4_layImage : MethodName × ByteArray × Nat × Option FieldType := (yX4_layImage, cX4_layImage, 1, (some .boolean))
theorem wd_X4_layImage : Cond.code yX4_layImage cX4_layImage 1 (some .boolean) ∈ jWS := jw_t (i := 881) (by decide +kernel) (by decide +kernel)
theorem wm_X4_layImage : Cond.instanceMethod yX4_layImage ∈ jWS := jw_t (i := 879) (by decide +kernel) (by decide +kernel)
theorem wv_X4_layImage : Cond.selects yX4_layImage.cls yX4_layImage yX4_layImage ∈ jWS := jw_t (i := 880) (by decide +kernel) (by decide +kernel)
def mX5_init : MethodName × ByteArray × Nat × Option FieldType := (yX5_init, cX5_init, 1, none)
theorem wd_X5_init : Cond.code yX5_init cX5_init 1 none ∈ jWS := jw_t (i := 150) (by decide +kernel) (by decide +kernel)
theorem wm_X5_init : Cond.instanceMethod yX5_init ∈ jWS := jw_t (i := 149) (by decide +kernel) (by decide +kernel)
def mX5_clearWay : MethodName × ByteArray × Nat × Option FieldType := (yX5_clearWay, cX5_clearWay, 3, none)
theorem wd_X5_clearWay : Cond.code yX5_clearWay cX5_clearWay 3 none ∈ jWS := jw_t (i := 714) (by decide +kernel) (by decide +kernel)
theorem wm_X5_clearWay : Cond.instanceMethod yX5_clearWay ∈ jWS := jw_t (i := 712) (by decide +kernel) (by decide +kernel)
theorem wv_X5_clearWay : Cond.selects yX5_clearWay.cls yX5_clearWay yX5_clearWay ∈ jWS := jw_t (i := 713) (by decide +kernel) (by decide +kernel)
def mX5_levelWay : MethodName × ByteArray × Nat × Option FieldType := (yX5_levelWay, cX5_levelWay, 4, none)
theorem wd_X5_levelWay : Cond.code yX5_levelWay cX5_levelWay 4 none ∈ jWS := jw_t (i := 719) (by decide +kernel) (by decide +kernel)
theorem wm_X5_levelWay : Cond.instanceMethod yX5_levelWay ∈ jWS := jw_t (i := 717) (by decide +kernel) (by decide +kernel)
theorem wv_X5_levelWay : Cond.selects yX5_levelWay.cls yX5_levelWay yX5_levelWay ∈ jWS := jw_t (i := 718) (by decide +kernel) (by decide +kernel)
def mX5_weakOn : MethodName × ByteArray × Nat × Option FieldType := (yX5_weakOn, cX5_weakOn, 2, (some .int))
theorem wd_X5_weakOn : Cond.code yX5_weakOn cX5_weakOn 2 (some .int) ∈ jWS := jw_t (i := 457) (by decide +kernel) (by decide +kernel)
theorem wm_X5_weakOn : Cond.instanceMethod yX5_weakOn ∈ jWS := jw_t (i := 455) (by decide +kernel) (by decide +kernel)
theorem wv_X5_weakOn : Cond.selects yX5_weakOn.cls yX5_weakOn yX5_weakOn ∈ jWS := jw_t (i := 456) (by decide +kernel) (by decide +kernel)
def mX5_weakSquares : MethodName × ByteArray × Nat × Option FieldType := (yX5_weakSquares, cX5_weakSquares, 3, (some .int))
theorem wd_X5_weakSquares : Cond.code yX5_weakSquares cX5_weakSquares 3 (some .int) ∈ jWS := jw_t (i := 1029) (by decide +kernel) (by decide +kernel)
theorem wm_X5_weakSquares : Cond.instanceMethod yX5_weakSquares ∈ jWS := jw_t (i := 1027) (by decide +kernel) (by decide +kernel)
theorem wv_X5_weakSquares : Cond.selects yX5_weakSquares.cls yX5_weakSquares yX5_weakSquares ∈ jWS := jw_t (i := 1028) (by decide +kernel) (by decide +kernel)
def mX6_init : MethodName × ByteArray × Nat × Option FieldType := (yX6_init, cX6_init, 1, none)
theorem wd_X6_init : Cond.code yX6_init cX6_init 1 none ∈ jWS := jw_t (i := 81) (by decide +kernel) (by decide +kernel)
theorem wm_X6_init : Cond.instanceMethod yX6_init ∈ jWS := jw_t (i := 80) (by decide +kernel) (by decide +kernel)
def mX6_take : MethodName × ByteArray × Nat × Option FieldType := (yX6_take, cX6_take, 2, (some .boolean))
theorem wd_X6_take : Cond.code yX6_take cX6_take 2 (some .boolean) ∈ jWS := jw_t (i := 475) (by decide +kernel) (by decide +kernel)
theorem wm_X6_take : Cond.instanceMethod yX6_take ∈ jWS := jw_t (i := 473) (by decide +kernel) (by decide +kernel)
theorem wv_X6_take : Cond.selects yX6_take.cls yX6_take yX6_take ∈ jWS := jw_t (i := 474) (by decide +kernel) (by decide +kernel)
def mX6_read : MethodName × ByteArray × Nat × Option FieldType := (yX6_read, cX6_read, 3, (some .int))
theorem wd_X6_read : Cond.code yX6_read cX6_read 3 (some .int) ∈ jWS := jw_t (i := 483) (by decide +kernel) (by decide +kernel)
theorem wm_X6_read : Cond.instanceMethod yX6_read ∈ jWS := jw_t (i := 481) (by decide +kernel) (by decide +kernel)
theorem wv_X6_read : Cond.selects yX6_read.cls yX6_read yX6_read ∈ jWS := jw_t (i := 482) (by decide +kernel) (by decide +kernel)
def mX6_readLine : MethodName × ByteArray × Nat × Option FieldType := (yX6_readLine, cX6_readLine, 3, (some .boolean))
theorem wd_X6_readLine : Cond.code yX6_readLine cX6_readLine 3 (some .boolean) ∈ jWS := jw_t (i := 487) (by decide +kernel) (by decide +kernel)
theorem wm_X6_readLine : Cond.instanceMethod yX6_readLine ∈ jWS := jw_t (i := 486) (by decide +kernel) (by decide +kernel)
theorem wv_X6_readLine : Cond.selects yX6_readLine.cls yX6_readLine yX6_readLine ∈ jWS := jw_p (i := 2) (by decide +kernel) (by decide +kernel)
def mX6_readLevel : MethodName × ByteArray × Nat × Option FieldType := (yX6_readLevel, cX6_readLevel, 6, none)
theorem wd_X6_readLevel : Cond.code yX6_readLevel cX6_readLevel 6 none ∈ jWS := jw_t (i := 491) (by decide +kernel) (by decide +kernel)
theorem wm_X6_readLevel : Cond.instanceMethod yX6_readLevel ∈ jWS := jw_t (i := 490) (by decide +kernel) (by decide +kernel)
theorem wv_X6_readLevel : Cond.selects yX6_readLevel.cls yX6_readLevel yX6_readLevel ∈ jWS := jw_p (i := 3) (by decide +kernel) (by decide +kernel)
def mX6_readOperand : MethodName × ByteArray × Nat × Option FieldType := (yX6_readOperand, cX6_readOperand, 3, none)
theorem wd_X6_readOperand : Cond.code yX6_readOperand cX6_readOperand 3 none ∈ jWS := jw_t (i := 495) (by decide +kernel) (by decide +kernel)
theorem wm_X6_readOperand : Cond.instanceMethod yX6_readOperand ∈ jWS := jw_t (i := 494) (by decide +kernel) (by decide +kernel)
theorem wv_X6_readOperand : Cond.selects yX6_readOperand.cls yX6_readOperand yX6_readOperand ∈ jWS := jw_p (i := 4) (by decide +kernel) (by decide +kernel)
def mX6_readNumber : MethodName × ByteArray × Nat × Option FieldType := (yX6_readNumber, cX6_readNumber, 3, none)
theorem wd_X6_readNumber : Cond.code yX6_readNumber cX6_readNumber 3 none ∈ jWS := jw_t (i := 506) (by decide +kernel) (by decide +kernel)
theorem wm_X6_readNumber : Cond.instanceMethod yX6_readNumber ∈ jWS := jw_t (i := 505) (by decide +kernel) (by decide +kernel)
theorem wv_X6_readNumber : Cond.selects yX6_readNumber.cls yX6_readNumber yX6_readNumber ∈ jWS := jw_p (i := 6) (by decide +kernel) (by decide +kernel)
def mX6_next : MethodName × ByteArray × Nat × Option FieldType := (yX6_next, cX6_next, 1, (some .int))
theorem wd_X6_next : Cond.code yX6_next cX6_next 1 (some .int) ∈ jWS := jw_t (i := 499) (by decide +kernel) (by decide +kernel)
theorem wm_X6_next : Cond.instanceMethod yX6_next ∈ jWS := jw_t (i := 498) (by decide +kernel) (by decide +kernel)
theorem wv_X6_next : Cond.selects yX6_next.cls yX6_next yX6_next ∈ jWS := jw_p (i := 5) (by decide +kernel) (by decide +kernel)
def mX6_spoil : MethodName × ByteArray × Nat × Option FieldType := (yX6_spoil, cX6_spoil, 1, none)
theorem wd_X6_spoil : Cond.code yX6_spoil cX6_spoil 1 none ∈ jWS := jw_t (i := 517) (by decide +kernel) (by decide +kernel)
theorem wm_X6_spoil : Cond.instanceMethod yX6_spoil ∈ jWS := jw_t (i := 516) (by decide +kernel) (by decide +kernel)
theorem wv_X6_spoil : Cond.selects yX6_spoil.cls yX6_spoil yX6_spoil ∈ jWS := jw_p (i := 8) (by decide +kernel) (by decide +kernel)
def mX6_emit : MethodName × ByteArray × Nat × Option FieldType := (yX6_emit, cX6_emit, 2, none)
theorem wd_X6_emit : Cond.code yX6_emit cX6_emit 2 none ∈ jWS := jw_t (i := 510) (by decide +kernel) (by decide +kernel)
theorem wm_X6_emit : Cond.instanceMethod yX6_emit ∈ jWS := jw_t (i := 509) (by decide +kernel) (by decide +kernel)
theorem wv_X6_emit : Cond.selects yX6_emit.cls yX6_emit yX6_emit ∈ jWS := jw_p (i := 7) (by decide +kernel) (by decide +kernel)
def mX6_isDigit : MethodName × ByteArray × Nat × Option FieldType := (yX6_isDigit, cX6_isDigit, 1, (some .boolean))
theorem wd_X6_isDigit : Cond.code yX6_isDigit cX6_isDigit 1 (some .boolean) ∈ jWS := jw_t (i := 502) (by decide +kernel) (by decide +kernel)
theorem wz_X6_isDigit : Cond.static yX6_isDigit ∈ jWS := jw_t (i := 501) (by decide +kernel) (by decide +kernel)
def mX6_nameOf : MethodName × ByteArray × Nat × Option FieldType := (yX6_nameOf, cX6_nameOf, 1, (some .int))
theorem wd_X6_nameOf : Cond.code yX6_nameOf cX6_nameOf 1 (some .int) ∈ jWS := jw_t (i := 513) (by decide +kernel) (by decide +kernel)
theorem wz_X6_nameOf : Cond.static yX6_nameOf ∈ jWS := jw_t (i := 512) (by decide +kernel) (by decide +kernel)
def mX6_levelOf : MethodName × ByteArray × Nat × Option FieldType := (yX6_levelOf, cX6_levelOf, 1, (some .int))
theorem wd_X6_levelOf : Cond.code yX6_levelOf cX6_levelOf 1 (some .int) ∈ jWS := jw_t (i := 520) (by decide +kernel) (by decide +kernel)
theorem wz_X6_levelOf : Cond.static yX6_levelOf ∈ jWS := jw_t (i := 519) (by decide +kernel) (by decide +kernel)
def mX6_isTold : MethodName × ByteArray × Nat × Option FieldType := (yX6_isTold, cX6_isTold, 1, (some .boolean))
theorem wd_X6_isTold : Cond.code yX6_isTold cX6_isTold 1 (some .boolean) ∈ jWS := jw_t (i := 585) (by decide +kernel) (by decide +kernel)
theorem wm_X6_isTold : Cond.instanceMethod yX6_isTold ∈ jWS := jw_t (i := 583) (by decide +kernel) (by decide +kernel)
theorem wv_X6_isTold : Cond.selects yX6_isTold.cls yX6_isTold yX6_isTold ∈ jWS := jw_t (i := 584) (by decide +kernel) (by decide +kernel)
def mX6_name : MethodName × ByteArray × Nat × Option FieldType := (yX6_name, cX6_name, 7, none)
theorem wd_X6_name : Cond.code yX6_name cX6_name 7 none ∈ jWS := jw_t (i := 589) (by decide +kernel) (by decide +kernel)
theorem wm_X6_name : Cond.instanceMethod yX6_name ∈ jWS := jw_t (i := 587) (by decide +kernel) (by decide +kernel)
theorem wv_X6_name : Cond.selects yX6_name.cls yX6_name yX6_name ∈ jWS := jw_t (i := 588) (by decide +kernel) (by decide +kernel)
def mX6_work : MethodName × ByteArray × Nat × Option FieldType := (yX6_work, cX6_work, 5, (some .int))
theorem wd_X6_work : Cond.code yX6_work cX6_work 5 (some .int) ∈ jWS := jw_t (i := 593) (by decide +kernel) (by decide +kernel)
theorem wm_X6_work : Cond.instanceMethod yX6_work ∈ jWS := jw_t (i := 591) (by decide +kernel) (by decide +kernel)
theorem wv_X6_work : Cond.selects yX6_work.cls yX6_work yX6_work ∈ jWS := jw_t (i := 592) (by decide +kernel) (by decide +kernel)
def mX6_named : MethodName × ByteArray × Nat × Option FieldType := (yX6_named, cX6_named, 2, (some .int))
theorem wd_X6_named : Cond.code yX6_named cX6_named 2 (some .int) ∈ jWS := jw_t (i := 597) (by decide +kernel) (by decide +kernel)
theorem wm_X6_named : Cond.instanceMethod yX6_named ∈ jWS := jw_t (i := 596) (by decide +kernel) (by decide +kernel)
theorem wv_X6_named : Cond.selects yX6_named.cls yX6_named yX6_named ∈ jWS := jw_p (i := 12) (by decide +kernel) (by decide +kernel)
def mX6_joined : MethodName × ByteArray × Nat × Option FieldType := (yX6_joined, cX6_joined, 3, (some .int))
theorem wd_X6_joined : Cond.code yX6_joined cX6_joined 3 (some .int) ∈ jWS := jw_t (i := 600) (by decide +kernel) (by decide +kernel)
theorem wz_X6_joined : Cond.static yX6_joined ∈ jWS := jw_t (i := 599) (by decide +kernel) (by decide +kernel)
def mX7_init : MethodName × ByteArray × Nat × Option FieldType := (yX7_init, cX7_init, 2, none)

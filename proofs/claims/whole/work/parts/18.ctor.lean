set_option maxRecDepth 100000 in
set_option maxHeartbeats 4000000 in
theorem k_X7_1 {G : jG} {l : Launch} {d : Nat} {I : jS} {L : jL} {R : jR} {Q : Option Value → jW → Prop} (hF : jFst G) (hz : jZ 2 I L R) (h : Q none (jKS.take 12, (u2 (fl (fl (fl (fl (fl (fl (fl (fl (fl I 3 24 (30 : Int32)) 4 24 (1 : Int32)) 5 24 (0 : Int32)) 6 24 (10 : Int32)) 7 24 (1 : Int32)) 8 24 (0 : Int32)) 9 24 (5 : Int32)) 10 24 (2 : Int32)) 11 24 (999 : Int32)) 1 1 (0 : Int32)), L, (u2R R 1 0 (some 2)))) : jCall G l yX7_init cX7_init 2 none (d + 2) 10 225 [.ref 1] (jKS.take 2, I, L, R) Q := by
  refine jCall_of (n0 := 1) (ls := [some (.ref 1), none]) (by decide +kernel) rfl (Nat.le_of_ble_eq_true rfl) ?_
  have hz0 := hz
  refine jr_aload_n dX7_init_0 rfl rfl ?_
  refine jr_objinit oi_X7_3 wo_m wo_c (Nat.le_of_ble_eq_true rfl) dX7_init_1 ?_
  refine jr_aload_n dX7_init_4 rfl rfl ?_
  refine jr_bipush dX7_init_5 kbp_9 ?_
  refine jr_bipush dX7_init_7 kbp_24 ?_
  refine jr_multi_i (mc := 0) (ms := 0) cl_X7_9 wa_int (by decide) (by decide) nn_9 nn_24 (by decide) (by decide) (n0 := 2) rfl (by decide) (fun j _ => (hz).1 _ (by omega)) (fun j hj => by rw [(hz).2.2 2 (by decide)]; exact rr_row2 hj) dX7_init_9 ?_
  refine J.eq (w' := (jKS.take 12, I, L, R)) ?_
  have hz := hz.mono (show 2 ≤ 12 by decide)
  refine jr_putr ff_X7_11 rfl rfl rfl (fun _ => rfl) (fun _ => rfl) dX7_init_13 ?_
  have hz := hz.u2R (i := 0) (x := some 2) (show 1 < 12 by decide)
  refine jr_iconst dX7_init_16 kic_0 ?_
  refine jr_istore_n dX7_init_17 rfl (by decide) rfl ?_
  refine jr_iload_n dX7_init_18 rfl rfl ?_
  refine jr_bipush dX7_init_19 kbp_8 ?_
  refine jr_icmp_gt dX7_init_21 (tgt := 44) (by decide) (fun c => absurd c (by decide)) (fun _ => ?_)
  refine jr_aload_n dX7_init_24 rfl rfl ?_
  refine jr_geta ff_X7_11 rfl u2Re dX7_init_25 ?_
  refine jr_iload_n dX7_init_28 rfl rfl ?_
  refine jr_aaload_i nn_0 rfl dX7_init_29 vin_0_9 ((u2Rn (by decide)).trans ((congrFun (hz0.2.2 2 (by decide)) 0).trans rr_2_0)) ?_
  refine jr_getstatic (r := 1001) (by decide +kernel) fs_X7_16 dX7_init_30 ?_
  refine jr_iload_n dX7_init_33 rfl rfl ?_
  refine jr_oaload (r := 1) nn_0 (by decide) dX7_init_34 (hF 0 (by decide)).1 ?_
  rw [(hF 0 (by decide)).2]
  rw [show jFirst 0 = (30 : Int32) from rfl]
  refine jr_callS (mc2 := 0) (ms2 := 0) (mc := 0) (ms := 0) vm_X7_20 (av := [.ref 3, .int (30 : Int32)]) (st := []) rfl rfl (Nat.le_of_ble_eq_true rfl) dX7_init_35 (k_fill rfl (by decide) ?_)
  have hz := hz.fl (k := 24) (x := (30 : Int32)) (show 3 < 12 by decide)
  show J G l yX7_init cX7_init 2 _ _ _ _ _ _ _ _
  refine jr_iinc (v := (1 : Int32)) dX7_init_38 rfl (by decide) (by decide) rfl ?_
  refine jr_goto dX7_init_41 (tgt := 18) (by decide) ?_
  refine jr_iload_n dX7_init_18 rfl rfl ?_
  refine jr_bipush dX7_init_19 kbp_8 ?_
  refine jr_icmp_gt dX7_init_21 (tgt := 44) (by decide) (fun c => absurd c (by decide)) (fun _ => ?_)
  refine jr_aload_n dX7_init_24 rfl rfl ?_
  refine jr_geta ff_X7_11 rfl u2Re dX7_init_25 ?_
  refine jr_iload_n dX7_init_28 rfl rfl ?_
  refine jr_aaload_i nn_1 rfl dX7_init_29 vin_1_9 ((u2Rn (by decide)).trans ((congrFun (hz0.2.2 2 (by decide)) 1).trans rr_2_1)) ?_
  refine jr_getstatic (r := 1001) (by decide +kernel) fs_X7_16 dX7_init_30 ?_
  refine jr_iload_n dX7_init_33 rfl rfl ?_
  refine jr_oaload (r := 1) nn_1 (by decide) dX7_init_34 (hF 1 (by decide)).1 ?_
  rw [(hF 1 (by decide)).2]
  rw [show jFirst 1 = (1 : Int32) from rfl]
  refine jr_callS (mc2 := 0) (ms2 := 0) (mc := 0) (ms := 0) vm_X7_20 (av := [.ref 4, .int (1 : Int32)]) (st := []) rfl rfl (Nat.le_of_ble_eq_true rfl) dX7_init_35 (k_fill rfl (by decide) ?_)
  have hz := hz.fl (k := 24) (x := (1 : Int32)) (show 4 < 12 by decide)
  show J G l yX7_init cX7_init 2 _ _ _ _ _ _ _ _
  refine jr_iinc (v := (2 : Int32)) dX7_init_38 rfl (by decide) (by decide) rfl ?_
  refine jr_goto dX7_init_41 (tgt := 18) (by decide) ?_
  refine jr_iload_n dX7_init_18 rfl rfl ?_
  refine jr_bipush dX7_init_19 kbp_8 ?_
  refine jr_icmp_gt dX7_init_21 (tgt := 44) (by decide) (fun c => absurd c (by decide)) (fun _ => ?_)
  refine jr_aload_n dX7_init_24 rfl rfl ?_
  refine jr_geta ff_X7_11 rfl u2Re dX7_init_25 ?_
  refine jr_iload_n dX7_init_28 rfl rfl ?_
  refine jr_aaload_i nn_2 rfl dX7_init_29 vin_2_9 ((u2Rn (by decide)).trans ((congrFun (hz0.2.2 2 (by decide)) 2).trans rr_2_2)) ?_
  refine jr_getstatic (r := 1001) (by decide +kernel) fs_X7_16 dX7_init_30 ?_
  refine jr_iload_n dX7_init_33 rfl rfl ?_
  refine jr_oaload (r := 1) nn_2 (by decide) dX7_init_34 (hF 2 (by decide)).1 ?_
  rw [(hF 2 (by decide)).2]
  rw [show jFirst 2 = (0 : Int32) from rfl]
  refine jr_callS (mc2 := 0) (ms2 := 0) (mc := 0) (ms := 0) vm_X7_20 (av := [.ref 5, .int (0 : Int32)]) (st := []) rfl rfl (Nat.le_of_ble_eq_true rfl) dX7_init_35 (k_fill rfl (by decide) ?_)
  have hz := hz.fl (k := 24) (x := (0 : Int32)) (show 5 < 12 by decide)
  show J G l yX7_init cX7_init 2 _ _ _ _ _ _ _ _
  refine jr_iinc (v := (3 : Int32)) dX7_init_38 rfl (by decide) (by decide) rfl ?_
  refine jr_goto dX7_init_41 (tgt := 18) (by decide) ?_
  refine jr_iload_n dX7_init_18 rfl rfl ?_
  refine jr_bipush dX7_init_19 kbp_8 ?_
  refine jr_icmp_gt dX7_init_21 (tgt := 44) (by decide) (fun c => absurd c (by decide)) (fun _ => ?_)
  refine jr_aload_n dX7_init_24 rfl rfl ?_
  refine jr_geta ff_X7_11 rfl u2Re dX7_init_25 ?_
  refine jr_iload_n dX7_init_28 rfl rfl ?_
  refine jr_aaload_i nn_3 rfl dX7_init_29 vin_3_9 ((u2Rn (by decide)).trans ((congrFun (hz0.2.2 2 (by decide)) 3).trans rr_2_3)) ?_
  refine jr_getstatic (r := 1001) (by decide +kernel) fs_X7_16 dX7_init_30 ?_
  refine jr_iload_n dX7_init_33 rfl rfl ?_
  refine jr_oaload (r := 1) nn_3 (by decide) dX7_init_34 (hF 3 (by decide)).1 ?_
  rw [(hF 3 (by decide)).2]
  rw [show jFirst 3 = (10 : Int32) from rfl]
  refine jr_callS (mc2 := 0) (ms2 := 0) (mc := 0) (ms := 0) vm_X7_20 (av := [.ref 6, .int (10 : Int32)]) (st := []) rfl rfl (Nat.le_of_ble_eq_true rfl) dX7_init_35 (k_fill rfl (by decide) ?_)
  have hz := hz.fl (k := 24) (x := (10 : Int32)) (show 6 < 12 by decide)
  show J G l yX7_init cX7_init 2 _ _ _ _ _ _ _ _
  refine jr_iinc (v := (4 : Int32)) dX7_init_38 rfl (by decide) (by decide) rfl ?_
  refine jr_goto dX7_init_41 (tgt := 18) (by decide) ?_
  refine jr_iload_n dX7_init_18 rfl rfl ?_
  refine jr_bipush dX7_init_19 kbp_8 ?_
  refine jr_icmp_gt dX7_init_21 (tgt := 44) (by decide) (fun c => absurd c (by decide)) (fun _ => ?_)
  refine jr_aload_n dX7_init_24 rfl rfl ?_
  refine jr_geta ff_X7_11 rfl u2Re dX7_init_25 ?_
  refine jr_iload_n dX7_init_28 rfl rfl ?_
  refine jr_aaload_i nn_4 rfl dX7_init_29 vin_4_9 ((u2Rn (by decide)).trans ((congrFun (hz0.2.2 2 (by decide)) 4).trans rr_2_4)) ?_
  refine jr_getstatic (r := 1001) (by decide +kernel) fs_X7_16 dX7_init_30 ?_
  refine jr_iload_n dX7_init_33 rfl rfl ?_
  refine jr_oaload (r := 1) nn_4 (by decide) dX7_init_34 (hF 4 (by decide)).1 ?_
  rw [(hF 4 (by decide)).2]
  rw [show jFirst 4 = (1 : Int32) from rfl]
  refine jr_callS (mc2 := 0) (ms2 := 0) (mc := 0) (ms := 0) vm_X7_20 (av := [.ref 7, .int (1 : Int32)]) (st := []) rfl rfl (Nat.le_of_ble_eq_true rfl) dX7_init_35 (k_fill rfl (by decide) ?_)
  have hz := hz.fl (k := 24) (x := (1 : Int32)) (show 7 < 12 by decide)
  show J G l yX7_init cX7_init 2 _ _ _ _ _ _ _ _
  refine jr_iinc (v := (5 : Int32)) dX7_init_38 rfl (by decide) (by decide) rfl ?_
  refine jr_goto dX7_init_41 (tgt := 18) (by decide) ?_
  refine jr_iload_n dX7_init_18 rfl rfl ?_
  refine jr_bipush dX7_init_19 kbp_8 ?_
  refine jr_icmp_gt dX7_init_21 (tgt := 44) (by decide) (fun c => absurd c (by decide)) (fun _ => ?_)
  refine jr_aload_n dX7_init_24 rfl rfl ?_
  refine jr_geta ff_X7_11 rfl u2Re dX7_init_25 ?_
  refine jr_iload_n dX7_init_28 rfl rfl ?_
  refine jr_aaload_i nn_5 rfl dX7_init_29 vin_5_9 ((u2Rn (by decide)).trans ((congrFun (hz0.2.2 2 (by decide)) 5).trans rr_2_5)) ?_
  refine jr_getstatic (r := 1001) (by decide +kernel) fs_X7_16 dX7_init_30 ?_
  refine jr_iload_n dX7_init_33 rfl rfl ?_
  refine jr_oaload (r := 1) nn_5 (by decide) dX7_init_34 (hF 5 (by decide)).1 ?_
  rw [(hF 5 (by decide)).2]
  rw [show jFirst 5 = (0 : Int32) from rfl]
  refine jr_callS (mc2 := 0) (ms2 := 0) (mc := 0) (ms := 0) vm_X7_20 (av := [.ref 8, .int (0 : Int32)]) (st := []) rfl rfl (Nat.le_of_ble_eq_true rfl) dX7_init_35 (k_fill rfl (by decide) ?_)
  have hz := hz.fl (k := 24) (x := (0 : Int32)) (show 8 < 12 by decide)
  show J G l yX7_init cX7_init 2 _ _ _ _ _ _ _ _
  refine jr_iinc (v := (6 : Int32)) dX7_init_38 rfl (by decide) (by decide) rfl ?_
  refine jr_goto dX7_init_41 (tgt := 18) (by decide) ?_
  refine jr_iload_n dX7_init_18 rfl rfl ?_
  refine jr_bipush dX7_init_19 kbp_8 ?_
  refine jr_icmp_gt dX7_init_21 (tgt := 44) (by decide) (fun c => absurd c (by decide)) (fun _ => ?_)
  refine jr_aload_n dX7_init_24 rfl rfl ?_
  refine jr_geta ff_X7_11 rfl u2Re dX7_init_25 ?_
  refine jr_iload_n dX7_init_28 rfl rfl ?_
  refine jr_aaload_i nn_6 rfl dX7_init_29 vin_6_9 ((u2Rn (by decide)).trans ((congrFun (hz0.2.2 2 (by decide)) 6).trans rr_2_6)) ?_
  refine jr_getstatic (r := 1001) (by decide +kernel) fs_X7_16 dX7_init_30 ?_
  refine jr_iload_n dX7_init_33 rfl rfl ?_
  refine jr_oaload (r := 1) nn_6 (by decide) dX7_init_34 (hF 6 (by decide)).1 ?_
  rw [(hF 6 (by decide)).2]
  rw [show jFirst 6 = (5 : Int32) from rfl]
  refine jr_callS (mc2 := 0) (ms2 := 0) (mc := 0) (ms := 0) vm_X7_20 (av := [.ref 9, .int (5 : Int32)]) (st := []) rfl rfl (Nat.le_of_ble_eq_true rfl) dX7_init_35 (k_fill rfl (by decide) ?_)
  have hz := hz.fl (k := 24) (x := (5 : Int32)) (show 9 < 12 by decide)
  show J G l yX7_init cX7_init 2 _ _ _ _ _ _ _ _
  refine jr_iinc (v := (7 : Int32)) dX7_init_38 rfl (by decide) (by decide) rfl ?_
  refine jr_goto dX7_init_41 (tgt := 18) (by decide) ?_
  refine jr_iload_n dX7_init_18 rfl rfl ?_
  refine jr_bipush dX7_init_19 kbp_8 ?_
  refine jr_icmp_gt dX7_init_21 (tgt := 44) (by decide) (fun c => absurd c (by decide)) (fun _ => ?_)
  refine jr_aload_n dX7_init_24 rfl rfl ?_
  refine jr_geta ff_X7_11 rfl u2Re dX7_init_25 ?_
  refine jr_iload_n dX7_init_28 rfl rfl ?_
  refine jr_aaload_i nn_7 rfl dX7_init_29 vin_7_9 ((u2Rn (by decide)).trans ((congrFun (hz0.2.2 2 (by decide)) 7).trans rr_2_7)) ?_
  refine jr_getstatic (r := 1001) (by decide +kernel) fs_X7_16 dX7_init_30 ?_
  refine jr_iload_n dX7_init_33 rfl rfl ?_
  refine jr_oaload (r := 1) nn_7 (by decide) dX7_init_34 (hF 7 (by decide)).1 ?_
  rw [(hF 7 (by decide)).2]
  rw [show jFirst 7 = (2 : Int32) from rfl]
  refine jr_callS (mc2 := 0) (ms2 := 0) (mc := 0) (ms := 0) vm_X7_20 (av := [.ref 10, .int (2 : Int32)]) (st := []) rfl rfl (Nat.le_of_ble_eq_true rfl) dX7_init_35 (k_fill rfl (by decide) ?_)
  have hz := hz.fl (k := 24) (x := (2 : Int32)) (show 10 < 12 by decide)
  show J G l yX7_init cX7_init 2 _ _ _ _ _ _ _ _
  refine jr_iinc (v := (8 : Int32)) dX7_init_38 rfl (by decide) (by decide) rfl ?_
  refine jr_goto dX7_init_41 (tgt := 18) (by decide) ?_
  refine jr_iload_n dX7_init_18 rfl rfl ?_
  refine jr_bipush dX7_init_19 kbp_8 ?_
  refine jr_icmp_gt dX7_init_21 (tgt := 44) (by decide) (fun c => absurd c (by decide)) (fun _ => ?_)
  refine jr_aload_n dX7_init_24 rfl rfl ?_
  refine jr_geta ff_X7_11 rfl u2Re dX7_init_25 ?_
  refine jr_iload_n dX7_init_28 rfl rfl ?_
  refine jr_aaload_i nn_8 rfl dX7_init_29 vin_8_9 ((u2Rn (by decide)).trans ((congrFun (hz0.2.2 2 (by decide)) 8).trans rr_2_8)) ?_
  refine jr_getstatic (r := 1001) (by decide +kernel) fs_X7_16 dX7_init_30 ?_
  refine jr_iload_n dX7_init_33 rfl rfl ?_
  refine jr_oaload (r := 1) nn_8 (by decide) dX7_init_34 (hF 8 (by decide)).1 ?_
  rw [(hF 8 (by decide)).2]
  rw [show jFirst 8 = (999 : Int32) from rfl]
  refine jr_callS (mc2 := 0) (ms2 := 0) (mc := 0) (ms := 0) vm_X7_20 (av := [.ref 11, .int (999 : Int32)]) (st := []) rfl rfl (Nat.le_of_ble_eq_true rfl) dX7_init_35 (k_fill rfl (by decide) ?_)
  have hz := hz.fl (k := 24) (x := (999 : Int32)) (show 11 < 12 by decide)
  show J G l yX7_init cX7_init 2 _ _ _ _ _ _ _ _
  refine jr_iinc (v := (9 : Int32)) dX7_init_38 rfl (by decide) (by decide) rfl ?_
  refine jr_goto dX7_init_41 (tgt := 18) (by decide) ?_
  refine jr_iload_n dX7_init_18 rfl rfl ?_
  refine jr_bipush dX7_init_19 kbp_8 ?_
  refine jr_icmp_gt dX7_init_21 (tgt := 44) (by decide) (fun _ => ?_) (fun c => absurd (by decide) c)
  refine jr_aload_n dX7_init_44 rfl rfl ?_
  refine jr_iconst dX7_init_45 kic_0 ?_
  refine jr_puti ff_X7_26 rfl dX7_init_46 ?_
  have hz := hz.u2 (i := 1) (x := (0 : Int32)) (show 1 < 12 by decide)
  exact jr_return dX7_init_49 ⟨Or.inl ⟨rfl, rfl⟩, h⟩
set_option maxRecDepth 100000 in
set_option maxHeartbeats 4000000 in
theorem k_X2_12 {G : jG} {l : Launch} {d : Nat} {I : jS} {L : jL} {R : jR} {Q : Option Value → jW → Prop} (hz : jZ 13 I L R) (h : Q none (jKS.take 17, (u2 (u2 I 12 4 (0 : Int32)) 12 5 (0 : Int32)), L, (u2R (u2R (u2R (u2R R 12 0 (some 13)) 12 1 (some 14)) 12 2 (some 15)) 12 3 (some 16)))) : jCall G l yX2_init cX2_init 1 none (d + 2) 4 160 [.ref 12] (jKS.take 13, I, L, R) Q := by
  refine jCall_of (n0 := 0) (ls := [some (.ref 12)]) (by decide +kernel) rfl (Nat.le_of_ble_eq_true rfl) ?_
  have hz0 := hz
  refine jr_aload_n dX2_init_0 rfl rfl ?_
  refine jr_objinit oi_X2_1 wo_m wo_c (Nat.le_of_ble_eq_true rfl) dX2_init_1 ?_
  refine jr_aload_n dX2_init_4 rfl rfl ?_
  refine jr_bipush dX2_init_5 kbp_40 ?_
  refine jk_newarr_i (mc := 3) (ms := 120) ks_13 (by decide) nn_40 (by decide) rfl (by decide) ((hz).1 13 (by decide)) dX2_init_7 ?_
  have hz := hz.mono (show 13 ≤ 14 by decide)
  refine jr_putr ff_X2_9 rfl rfl rfl (fun _ => rfl) (fun _ => rfl) dX2_init_9 ?_
  have hz := hz.u2R (i := 0) (x := some 13) (show 12 < 14 by decide)
  refine jr_aload_n dX2_init_12 rfl rfl ?_
  refine jr_bipush dX2_init_13 kbp_40 ?_
  refine jk_newarr_i (mc := 2) (ms := 80) ks_14 (by decide) nn_40 (by decide) rfl (by decide) ((hz).1 14 (by decide)) dX2_init_15 ?_
  have hz := hz.mono (show 14 ≤ 15 by decide)
  refine jr_putr ff_X2_13 rfl rfl rfl (fun _ => rfl) (fun _ => rfl) dX2_init_17 ?_
  have hz := hz.u2R (i := 1) (x := some 14) (show 12 < 15 by decide)
  refine jr_aload_n dX2_init_20 rfl rfl ?_
  refine jr_bipush dX2_init_21 kbp_40 ?_
  refine jk_newarr_i (mc := 1) (ms := 40) ks_15 (by decide) nn_40 (by decide) rfl (by decide) ((hz).1 15 (by decide)) dX2_init_23 ?_
  have hz := hz.mono (show 15 ≤ 16 by decide)
  refine jr_putr ff_X2_16 rfl rfl rfl (fun _ => rfl) (fun _ => rfl) dX2_init_25 ?_
  have hz := hz.u2R (i := 2) (x := some 15) (show 12 < 16 by decide)
  refine jr_aload_n dX2_init_28 rfl rfl ?_
  refine jr_bipush dX2_init_29 kbp_40 ?_
  refine jk_newarr_i (mc := 0) (ms := 0) ks_16 (by decide) nn_40 (by decide) rfl (by decide) ((hz).1 16 (by decide)) dX2_init_31 ?_
  have hz := hz.mono (show 16 ≤ 17 by decide)
  refine jr_putr ff_X2_19 rfl rfl rfl (fun _ => rfl) (fun _ => rfl) dX2_init_33 ?_
  have hz := hz.u2R (i := 3) (x := some 16) (show 12 < 17 by decide)
  refine jr_aload_n dX2_init_36 rfl rfl ?_
  refine jr_iconst dX2_init_37 kic_0 ?_
  refine jr_puti ff_X2_22 rfl dX2_init_38 ?_
  have hz := hz.u2 (i := 4) (x := (0 : Int32)) (show 12 < 17 by decide)
  refine jr_aload_n dX2_init_41 rfl rfl ?_
  refine jr_iconst dX2_init_42 kic_0 ?_
  refine jr_puti ff_X2_26 rfl dX2_init_43 ?_
  have hz := hz.u2 (i := 5) (x := (0 : Int32)) (show 12 < 17 by decide)
  exact jr_return dX2_init_46 ⟨Or.inl ⟨rfl, rfl⟩, h⟩
set_option maxRecDepth 100000 in
set_option maxHeartbeats 4000000 in
theorem k_X6_17 {G : jG} {l : Launch} {d : Nat} {I : jS} {L : jL} {R : jR} {Q : Option Value → jW → Prop} (hz : jZ 18 I L R) (h : Q none (jKS.take 23, (u2 (u2 (u2 (u2 (u2 I 17 5 (0 : Int32)) 17 6 (0 : Int32)) 17 7 (-1 : Int32)) 17 8 (0 : Int32)) 17 9 (0 : Int32)), L, (u2R (u2R (u2R (u2R (u2R R 17 0 (some 18)) 17 1 (some 19)) 17 2 (some 20)) 17 3 (some 21)) 17 4 (some 22)))) : jCall G l yX6_init cX6_init 1 none (d + 2) 5 489 [.ref 17] (jKS.take 18, I, L, R) Q := by
  refine jCall_of (n0 := 0) (ls := [some (.ref 17)]) (by decide +kernel) rfl (Nat.le_of_ble_eq_true rfl) ?_
  have hz0 := hz
  refine jr_aload_n dX6_init_0 rfl rfl ?_
  refine jr_objinit oi_X6_1 wo_m wo_c (Nat.le_of_ble_eq_true rfl) dX6_init_1 ?_
  refine jr_aload_n dX6_init_4 rfl rfl ?_
  refine jr_bipush dX6_init_5 kbp_120 ?_
  refine jk_newarr_i (mc := 4) (ms := 369) ks_18 (by decide) nn_120 (by decide) rfl (by decide) ((hz).1 18 (by decide)) dX6_init_7 ?_
  have hz := hz.mono (show 18 ≤ 19 by decide)
  refine jr_putr ff_X6_9 rfl rfl rfl (fun _ => rfl) (fun _ => rfl) dX6_init_9 ?_
  have hz := hz.u2R (i := 0) (x := some 18) (show 17 < 19 by decide)
  refine jr_aload_n dX6_init_12 rfl rfl ?_
  refine jr_bipush dX6_init_13 kbp_121 ?_
  refine jk_newarr_i (mc := 3) (ms := 248) ks_19 (by decide) nn_121 (by decide) rfl (by decide) ((hz).1 19 (by decide)) dX6_init_15 ?_
  have hz := hz.mono (show 19 ≤ 20 by decide)
  refine jr_putr ff_X6_13 rfl rfl rfl (fun _ => rfl) (fun _ => rfl) dX6_init_17 ?_
  have hz := hz.u2R (i := 1) (x := some 19) (show 17 < 20 by decide)
  refine jr_aload_n dX6_init_20 rfl rfl ?_
  refine jr_bipush dX6_init_21 kbp_121 ?_
  refine jk_newarr_i (mc := 2) (ms := 127) ks_20 (by decide) nn_121 (by decide) rfl (by decide) ((hz).1 20 (by decide)) dX6_init_23 ?_
  have hz := hz.mono (show 20 ≤ 21 by decide)
  refine jr_putr ff_X6_16 rfl rfl rfl (fun _ => rfl) (fun _ => rfl) dX6_init_25 ?_
  have hz := hz.u2R (i := 2) (x := some 20) (show 17 < 21 by decide)
  refine jr_aload_n dX6_init_28 rfl rfl ?_
  refine jr_bipush dX6_init_29 kbp_121 ?_
  refine jk_newarr_i (mc := 1) (ms := 6) ks_21 (by decide) nn_121 (by decide) rfl (by decide) ((hz).1 21 (by decide)) dX6_init_31 ?_
  have hz := hz.mono (show 21 ≤ 22 by decide)
  refine jr_putr ff_X6_19 rfl rfl rfl (fun _ => rfl) (fun _ => rfl) dX6_init_33 ?_
  have hz := hz.u2R (i := 3) (x := some 21) (show 17 < 22 by decide)
  refine jr_aload_n dX6_init_36 rfl rfl ?_
  refine jr_bipush dX6_init_37 kbp_6 ?_
  refine jk_newarr_i (mc := 0) (ms := 0) ks_22 (by decide) nn_6 (by decide) rfl (by decide) ((hz).1 22 (by decide)) dX6_init_39 ?_
  have hz := hz.mono (show 22 ≤ 23 by decide)
  refine jr_putr ff_X6_22 rfl rfl rfl (fun _ => rfl) (fun _ => rfl) dX6_init_41 ?_
  have hz := hz.u2R (i := 4) (x := some 22) (show 17 < 23 by decide)
  refine jr_aload_n dX6_init_44 rfl rfl ?_
  refine jr_iconst dX6_init_45 kic_0 ?_
  refine jr_puti ff_X6_25 rfl dX6_init_46 ?_
  have hz := hz.u2 (i := 5) (x := (0 : Int32)) (show 17 < 23 by decide)
  refine jr_aload_n dX6_init_49 rfl rfl ?_
  refine jr_iconst dX6_init_50 kic_0 ?_
  refine jr_puti ff_X6_29 rfl dX6_init_51 ?_
  have hz := hz.u2 (i := 6) (x := (0 : Int32)) (show 17 < 23 by decide)
  refine jr_aload_n dX6_init_54 rfl rfl ?_
  refine jr_iconst dX6_init_55 kic_m1 ?_
  refine jr_puti ff_X6_32 rfl dX6_init_56 ?_
  have hz := hz.u2 (i := 7) (x := (-1 : Int32)) (show 17 < 23 by decide)
  refine jr_aload_n dX6_init_59 rfl rfl ?_
  refine jr_iconst dX6_init_60 kic_0 ?_
  refine jr_puti ff_X6_35 rfl dX6_init_61 ?_
  have hz := hz.u2 (i := 8) (x := (0 : Int32)) (show 17 < 23 by decide)
  refine jr_aload_n dX6_init_64 rfl rfl ?_
  refine jr_iconst dX6_init_65 kic_0 ?_
  refine jr_puti ff_X6_38 rfl dX6_init_66 ?_
  have hz := hz.u2 (i := 9) (x := (0 : Int32)) (show 17 < 23 by decide)
  exact jr_return dX6_init_69 ⟨Or.inl ⟨rfl, rfl⟩, h⟩
set_option maxRecDepth 100000 in
set_option maxHeartbeats 4000000 in
theorem k_X3_23 {G : jG} {l : Launch} {d : Nat} {I : jS} {L : jL} {R : jR} {Q : Option Value → jW → Prop} (hz : jZ 24 I L R) (h : Q none (jKS.take 24, (u2 (u2 (u2 (u2 I 23 2 (0 : Int32)) 23 3 (0 : Int32)) 23 4 (0 : Int32)) 23 5 (0 : Int32)), L, (u2R (u2R R 23 0 (some 1)) 23 1 (some 17)))) : jCall G l yX3_init cX3_init 3 none (d + 2) 0 0 [.ref 23, .ref 1, .ref 17] (jKS.take 24, I, L, R) Q := by
  refine jCall_of (n0 := 0) (ls := [some (.ref 23), some (.ref 1), some (.ref 17)]) (by decide +kernel) rfl (Nat.le_of_ble_eq_true rfl) ?_
  have hz0 := hz
  refine jr_aload_n dX3_init_0 rfl rfl ?_
  refine jr_objinit oi_X3_3 wo_m wo_c (Nat.le_of_ble_eq_true rfl) dX3_init_1 ?_
  refine jr_aload_n dX3_init_4 rfl rfl ?_
  refine jr_aload_n dX3_init_5 rfl rfl ?_
  refine jr_putr ff_X3_9 rfl rfl rfl (fun _ => rfl) (fun _ => rfl) dX3_init_6 ?_
  have hz := hz.u2R (i := 0) (x := some 1) (show 23 < 24 by decide)
  refine jr_aload_n dX3_init_9 rfl rfl ?_
  refine jr_aload_n dX3_init_10 rfl rfl ?_
  refine jr_putr ff_X3_15 rfl rfl rfl (fun _ => rfl) (fun _ => rfl) dX3_init_11 ?_
  have hz := hz.u2R (i := 1) (x := some 17) (show 23 < 24 by decide)
  refine jr_aload_n dX3_init_14 rfl rfl ?_
  refine jr_iconst dX3_init_15 kic_0 ?_
  refine jr_puti ff_X3_19 rfl dX3_init_16 ?_
  have hz := hz.u2 (i := 2) (x := (0 : Int32)) (show 23 < 24 by decide)
  refine jr_aload_n dX3_init_19 rfl rfl ?_
  refine jr_iconst dX3_init_20 kic_0 ?_
  refine jr_puti ff_X3_23 rfl dX3_init_21 ?_
  have hz := hz.u2 (i := 3) (x := (0 : Int32)) (show 23 < 24 by decide)
  refine jr_aload_n dX3_init_24 rfl rfl ?_
  refine jr_iconst dX3_init_25 kic_0 ?_
  refine jr_puti ff_X3_26 rfl dX3_init_26 ?_
  have hz := hz.u2 (i := 4) (x := (0 : Int32)) (show 23 < 24 by decide)
  refine jr_aload_n dX3_init_29 rfl rfl ?_
  refine jr_iconst dX3_init_30 kic_0 ?_
  refine jr_putz ff_X3_29 rfl (Or.inl rfl) dX3_init_31 ?_
  have hz := hz.u2 (i := 5) (x := (0 : Int32)) (show 23 < 24 by decide)
  exact jr_return dX3_init_34 ⟨Or.inl ⟨rfl, rfl⟩, h⟩
set_option maxRecDepth 100000 in
set_option maxHeartbeats 4000000 in
theorem k_X5_25 {G : jG} {l : Launch} {d : Nat} {I : jS} {L : jL} {R : jR} {Q : Option Value → jW → Prop} (hz : jZ 26 I L R) (h : Q none (jKS.take 28, (u2 I 25 2 (0 : Int32)), L, (u2R (u2R R 25 0 (some 26)) 25 1 (some 27)))) : jCall G l yX5_init cX5_init 1 none (d + 1) 2 48 [.ref 25] (jKS.take 26, I, L, R) Q := by
  refine jCall_of (n0 := 0) (ls := [some (.ref 25)]) (by decide +kernel) rfl (Nat.le_of_ble_eq_true rfl) ?_
  have hz0 := hz
  refine jr_aload_n dX5_init_0 rfl rfl ?_
  refine jr_objinit oi_X5_3 wo_m wo_c (Nat.le_of_ble_eq_true rfl) dX5_init_1 ?_
  refine jr_aload_n dX5_init_4 rfl rfl ?_
  refine jr_bipush dX5_init_5 kbp_24 ?_
  refine jk_newarr_i (mc := 1) (ms := 24) ks_26 (by decide) nn_24 (by decide) rfl (by decide) ((hz).1 26 (by decide)) dX5_init_7 ?_
  have hz := hz.mono (show 26 ≤ 27 by decide)
  refine jr_putr ff_X5_9 rfl rfl rfl (fun _ => rfl) (fun _ => rfl) dX5_init_9 ?_
  have hz := hz.u2R (i := 0) (x := some 26) (show 25 < 27 by decide)
  refine jr_aload_n dX5_init_12 rfl rfl ?_
  refine jr_bipush dX5_init_13 kbp_24 ?_
  refine jk_newarr_i (mc := 0) (ms := 0) ks_27 (by decide) nn_24 (by decide) rfl (by decide) ((hz).1 27 (by decide)) dX5_init_15 ?_
  have hz := hz.mono (show 27 ≤ 28 by decide)
  refine jr_putr ff_X5_15 rfl rfl rfl (fun _ => rfl) (fun _ => rfl) dX5_init_17 ?_
  have hz := hz.u2R (i := 1) (x := some 27) (show 25 < 28 by decide)
  refine jr_aload_n dX5_init_20 rfl rfl ?_
  refine jr_iconst dX5_init_21 kic_0 ?_
  refine jr_puti ff_X5_18 rfl dX5_init_22 ?_
  have hz := hz.u2 (i := 2) (x := (0 : Int32)) (show 25 < 28 by decide)
  exact jr_return dX5_init_25 ⟨Or.inl ⟨rfl, rfl⟩, h⟩
set_option maxRecDepth 100000 in
set_option maxHeartbeats 4000000 in
theorem k_X4_24 {G : jG} {l : Launch} {d : Nat} {I : jS} {L : jL} {R : jR} {Q : Option Value → jW → Prop} (hz : jZ 25 I L R) (h : Q none (jKS.take 31, (u2 (u2 (u2 (u2 I 25 2 (0 : Int32)) 28 4 (-2 : Int32)) 24 4 (0 : Int32)) 24 5 (0 : Int32)), L, (u2R (u2R (u2R (u2R (u2R (u2R R 25 0 (some 26)) 25 1 (some 27)) 24 0 (some 25)) 24 1 (some 28)) 24 2 (some 29)) 24 3 (some 30)))) : jCall G l yX4_init cX4_init 1 none (d + 2) 6 85 [.ref 24] (jKS.take 25, I, L, R) Q := by
  refine jCall_of (n0 := 0) (ls := [some (.ref 24)]) (by decide +kernel) rfl (Nat.le_of_ble_eq_true rfl) ?_
  have hz0 := hz
  refine jr_aload_n dX4_init_0 rfl rfl ?_
  refine jr_objinit oi_X4_3 wo_m wo_c (Nat.le_of_ble_eq_true rfl) dX4_init_1 ?_
  refine jr_aload_n dX4_init_4 rfl rfl ?_
  refine jk_new (mc := 5) (ms := 82) (n := 25) ks_25 wc_X5 (by decide) cl_X4_9 in_X5 wi_X5 rfl (by decide) (df_X5 ((hz).1 25 (by decide)) ((hz).2.1 25 (by decide)) ((hz).2.2 25 (by decide))) dX4_init_5 ?_
  have hz := hz.mono (show 25 ≤ 26 by decide)
  refine jr_dup dX4_init_8 rfl ?_
  refine jr_callI (mc2 := 2) (ms2 := 48) (mc := 3) (ms := 34) im_X4_11 (r := 25) (av := []) (st := [.ref 25, .ref 24]) rfl rfl (Nat.le_of_ble_eq_true rfl) dX4_init_9 (k_X5_25 (d := d) (hz) ?_)
  have hz := hz.mono (show 26 ≤ 28 by decide)
  have hz := hz.u2 (i := 2) (x := (0 : Int32)) (show 25 < 28 by decide)
  have hz := hz.u2R (i := 0) (x := (some 26)) (show 25 < 28 by decide)
  have hz := hz.u2R (i := 1) (x := (some 27)) (show 25 < 28 by decide)
  show J G l yX4_init cX4_init 1 _ _ _ _ _ _ _ _
  refine jr_putr ff_X4_12 rfl rfl rfl (fun _ => rfl) (fun _ => rfl) dX4_init_12 ?_
  have hz := hz.u2R (i := 0) (x := some 25) (show 24 < 28 by decide)
  refine jr_aload_n dX4_init_15 rfl rfl ?_
  refine jr_iconst dX4_init_16 kic_5 ?_
  refine jk_newarr_i (mc := 2) (ms := 29) ks_28 (by decide) nn_5 (by decide) rfl (by decide) ((hz).1 28 (by decide)) dX4_init_17 ?_
  have hz := hz.mono (show 28 ≤ 29 by decide)
  refine jr_putr ff_X4_18 rfl rfl rfl (fun _ => rfl) (fun _ => rfl) dX4_init_19 ?_
  have hz := hz.u2R (i := 1) (x := some 28) (show 24 < 29 by decide)
  refine jr_aload_n dX4_init_22 rfl rfl ?_
  refine jr_geta ff_X4_18 rfl u2Re dX4_init_23 ?_
  refine jr_iconst dX4_init_26 kic_4 ?_
  refine jr_bipush dX4_init_27 kbp_m2 ?_
  refine jr_iastore nn_4 rfl dX4_init_29 vin_4_5 ?_
  have hz := hz.u2 (i := 4) (x := (-2 : Int32)) (show 28 < 29 by decide)
  refine jr_aload_n dX4_init_30 rfl rfl ?_
  refine jr_bipush dX4_init_31 kbp_24 ?_
  refine jk_newarr_i (mc := 1) (ms := 5) ks_29 (by decide) nn_24 (by decide) rfl (by decide) ((hz).1 29 (by decide)) dX4_init_33 ?_
  have hz := hz.mono (show 29 ≤ 30 by decide)
  refine jr_putr ff_X4_22 rfl rfl rfl (fun _ => rfl) (fun _ => rfl) dX4_init_35 ?_
  have hz := hz.u2R (i := 2) (x := some 29) (show 24 < 30 by decide)
  refine jr_aload_n dX4_init_38 rfl rfl ?_
  refine jr_iconst dX4_init_39 kic_5 ?_
  refine jk_newarr_i (mc := 0) (ms := 0) ks_30 (by decide) nn_5 (by decide) rfl (by decide) ((hz).1 30 (by decide)) dX4_init_40 ?_
  have hz := hz.mono (show 30 ≤ 31 by decide)
  refine jr_putr ff_X4_25 rfl rfl rfl (fun _ => rfl) (fun _ => rfl) dX4_init_42 ?_
  have hz := hz.u2R (i := 3) (x := some 30) (show 24 < 31 by decide)
  refine jr_aload_n dX4_init_45 rfl rfl ?_
  refine jr_iconst dX4_init_46 kic_0 ?_
  refine jr_puti ff_X4_28 rfl dX4_init_47 ?_
  have hz := hz.u2 (i := 4) (x := (0 : Int32)) (show 24 < 31 by decide)
  refine jr_aload_n dX4_init_50 rfl rfl ?_
  refine jr_iconst dX4_init_51 kic_0 ?_
  refine jr_putz ff_X4_32 rfl (Or.inl rfl) dX4_init_52 ?_
  have hz := hz.u2 (i := 5) (x := (0 : Int32)) (show 24 < 31 by decide)
  exact jr_return dX4_init_55 ⟨Or.inl ⟨rfl, rfl⟩, h⟩
set_option maxRecDepth 100000 in
set_option maxHeartbeats 4000000 in
theorem k_X5_32 {G : jG} {l : Launch} {d : Nat} {I : jS} {L : jL} {R : jR} {Q : Option Value → jW → Prop} (hz : jZ 33 I L R) (h : Q none (jKS.take 35, (u2 I 32 2 (0 : Int32)), L, (u2R (u2R R 32 0 (some 33)) 32 1 (some 34)))) : jCall G l yX5_init cX5_init 1 none (d + 1) 2 48 [.ref 32] (jKS.take 33, I, L, R) Q := by
  refine jCall_of (n0 := 0) (ls := [some (.ref 32)]) (by decide +kernel) rfl (Nat.le_of_ble_eq_true rfl) ?_
  have hz0 := hz
  refine jr_aload_n dX5_init_0 rfl rfl ?_
  refine jr_objinit oi_X5_3 wo_m wo_c (Nat.le_of_ble_eq_true rfl) dX5_init_1 ?_
  refine jr_aload_n dX5_init_4 rfl rfl ?_
  refine jr_bipush dX5_init_5 kbp_24 ?_
  refine jk_newarr_i (mc := 1) (ms := 24) ks_33 (by decide) nn_24 (by decide) rfl (by decide) ((hz).1 33 (by decide)) dX5_init_7 ?_
  have hz := hz.mono (show 33 ≤ 34 by decide)
  refine jr_putr ff_X5_9 rfl rfl rfl (fun _ => rfl) (fun _ => rfl) dX5_init_9 ?_
  have hz := hz.u2R (i := 0) (x := some 33) (show 32 < 34 by decide)
  refine jr_aload_n dX5_init_12 rfl rfl ?_
  refine jr_bipush dX5_init_13 kbp_24 ?_
  refine jk_newarr_i (mc := 0) (ms := 0) ks_34 (by decide) nn_24 (by decide) rfl (by decide) ((hz).1 34 (by decide)) dX5_init_15 ?_
  have hz := hz.mono (show 34 ≤ 35 by decide)
  refine jr_putr ff_X5_15 rfl rfl rfl (fun _ => rfl) (fun _ => rfl) dX5_init_17 ?_
  have hz := hz.u2R (i := 1) (x := some 34) (show 32 < 35 by decide)
  refine jr_aload_n dX5_init_20 rfl rfl ?_
  refine jr_iconst dX5_init_21 kic_0 ?_
  refine jr_puti ff_X5_18 rfl dX5_init_22 ?_
  have hz := hz.u2 (i := 2) (x := (0 : Int32)) (show 32 < 35 by decide)
  exact jr_return dX5_init_25 ⟨Or.inl ⟨rfl, rfl⟩, h⟩
set_option maxRecDepth 100000 in
set_option maxHeartbeats 4000000 in
theorem k_X10_31 {G : jG} {l : Launch} {d : Nat} {I : jS} {L : jL} {R : jR} {Q : Option Value → jW → Prop} (hz : jZ 32 I L R) (h : Q none (jKS.take 37, (u2 (u2 (u2 (u2 I 32 2 (0 : Int32)) 31 5 (0 : Int32)) 31 6 (0 : Int32)) 31 7 (-2 : Int32)), L, (u2R (u2R (u2R (u2R (u2R (u2R (u2R R 31 0 (some 1)) 31 1 (some 23)) 32 0 (some 33)) 32 1 (some 34)) 31 2 (some 32)) 31 3 (some 35)) 31 4 (some 36)))) : jCall G l yX10_init cX10_init 3 none (d + 2) 5 71 [.ref 31, .ref 1, .ref 23] (jKS.take 32, I, L, R) Q := by
  refine jCall_of (n0 := 0) (ls := [some (.ref 31), some (.ref 1), some (.ref 23)]) (by decide +kernel) rfl (Nat.le_of_ble_eq_true rfl) ?_
  have hz0 := hz
  refine jr_aload_n dX10_init_0 rfl rfl ?_
  refine jr_objinit oi_X10_3 wo_m wo_c (Nat.le_of_ble_eq_true rfl) dX10_init_1 ?_
  refine jr_aload_n dX10_init_4 rfl rfl ?_
  refine jr_aload_n dX10_init_5 rfl rfl ?_
  refine jr_putr ff_X10_9 rfl rfl rfl (fun _ => rfl) (fun _ => rfl) dX10_init_6 ?_
  have hz := hz.u2R (i := 0) (x := some 1) (show 31 < 32 by decide)
  refine jr_aload_n dX10_init_9 rfl rfl ?_
  refine jr_aload_n dX10_init_10 rfl rfl ?_
  refine jr_putr ff_X10_15 rfl rfl rfl (fun _ => rfl) (fun _ => rfl) dX10_init_11 ?_
  have hz := hz.u2R (i := 1) (x := some 23) (show 31 < 32 by decide)
  refine jr_aload_n dX10_init_14 rfl rfl ?_
  refine jk_new (mc := 4) (ms := 68) (n := 32) ks_32 wc_X5 (by decide) cl_X10_19 in_X5 wi_X5 rfl (by decide) (df_X5 ((hz).1 32 (by decide)) ((hz).2.1 32 (by decide)) ((hz).2.2 32 (by decide))) dX10_init_15 ?_
  have hz := hz.mono (show 32 ≤ 33 by decide)
  refine jr_dup dX10_init_18 rfl ?_
  refine jr_callI (mc2 := 2) (ms2 := 48) (mc := 2) (ms := 20) im_X10_21 (r := 32) (av := []) (st := [.ref 32, .ref 31]) rfl rfl (Nat.le_of_ble_eq_true rfl) dX10_init_19 (k_X5_32 (d := d) (hz) ?_)
  have hz := hz.mono (show 33 ≤ 35 by decide)
  have hz := hz.u2 (i := 2) (x := (0 : Int32)) (show 32 < 35 by decide)
  have hz := hz.u2R (i := 0) (x := (some 33)) (show 32 < 35 by decide)
  have hz := hz.u2R (i := 1) (x := (some 34)) (show 32 < 35 by decide)
  show J G l yX10_init cX10_init 3 _ _ _ _ _ _ _ _
  refine jr_putr ff_X10_22 rfl rfl rfl (fun _ => rfl) (fun _ => rfl) dX10_init_22 ?_
  have hz := hz.u2R (i := 2) (x := some 32) (show 31 < 35 by decide)
  refine jr_aload_n dX10_init_25 rfl rfl ?_
  refine jr_bipush dX10_init_26 kbp_10 ?_
  refine jk_newarr_i (mc := 1) (ms := 10) ks_35 (by decide) nn_10 (by decide) rfl (by decide) ((hz).1 35 (by decide)) dX10_init_28 ?_
  have hz := hz.mono (show 35 ≤ 36 by decide)
  refine jr_putr ff_X10_26 rfl rfl rfl (fun _ => rfl) (fun _ => rfl) dX10_init_30 ?_
  have hz := hz.u2R (i := 3) (x := some 35) (show 31 < 36 by decide)
  refine jr_aload_n dX10_init_33 rfl rfl ?_
  refine jr_bipush dX10_init_34 kbp_10 ?_
  refine jk_newarr_i (mc := 0) (ms := 0) ks_36 (by decide) nn_10 (by decide) rfl (by decide) ((hz).1 36 (by decide)) dX10_init_36 ?_
  have hz := hz.mono (show 36 ≤ 37 by decide)
  refine jr_putr ff_X10_30 rfl rfl rfl (fun _ => rfl) (fun _ => rfl) dX10_init_38 ?_
  have hz := hz.u2R (i := 4) (x := some 36) (show 31 < 37 by decide)
  refine jr_aload_n dX10_init_41 rfl rfl ?_
  refine jr_iconst dX10_init_42 kic_0 ?_
  refine jr_puti ff_X10_33 rfl dX10_init_43 ?_
  have hz := hz.u2 (i := 5) (x := (0 : Int32)) (show 31 < 37 by decide)
  refine jr_aload_n dX10_init_46 rfl rfl ?_
  refine jr_iconst dX10_init_47 kic_0 ?_
  refine jr_puti ff_X10_37 rfl dX10_init_48 ?_
  have hz := hz.u2 (i := 6) (x := (0 : Int32)) (show 31 < 37 by decide)
  refine jr_aload_n dX10_init_51 rfl rfl ?_
  refine jr_bipush dX10_init_52 kbp_m2 ?_
  refine jr_puti ff_X10_40 rfl dX10_init_54 ?_
  have hz := hz.u2 (i := 7) (x := (-2 : Int32)) (show 31 < 37 by decide)
  exact jr_return dX10_init_57 ⟨Or.inl ⟨rfl, rfl⟩, h⟩
set_option maxRecDepth 100000 in
set_option maxHeartbeats 4000000 in
theorem k_X5_38 {G : jG} {l : Launch} {d : Nat} {I : jS} {L : jL} {R : jR} {Q : Option Value → jW → Prop} (hz : jZ 39 I L R) (h : Q none (jKS.take 41, (u2 I 38 2 (0 : Int32)), L, (u2R (u2R R 38 0 (some 39)) 38 1 (some 40)))) : jCall G l yX5_init cX5_init 1 none (d + 1) 2 48 [.ref 38] (jKS.take 39, I, L, R) Q := by
  refine jCall_of (n0 := 0) (ls := [some (.ref 38)]) (by decide +kernel) rfl (Nat.le_of_ble_eq_true rfl) ?_
  have hz0 := hz
  refine jr_aload_n dX5_init_0 rfl rfl ?_
  refine jr_objinit oi_X5_3 wo_m wo_c (Nat.le_of_ble_eq_true rfl) dX5_init_1 ?_
  refine jr_aload_n dX5_init_4 rfl rfl ?_
  refine jr_bipush dX5_init_5 kbp_24 ?_
  refine jk_newarr_i (mc := 1) (ms := 24) ks_39 (by decide) nn_24 (by decide) rfl (by decide) ((hz).1 39 (by decide)) dX5_init_7 ?_
  have hz := hz.mono (show 39 ≤ 40 by decide)
  refine jr_putr ff_X5_9 rfl rfl rfl (fun _ => rfl) (fun _ => rfl) dX5_init_9 ?_
  have hz := hz.u2R (i := 0) (x := some 39) (show 38 < 40 by decide)
  refine jr_aload_n dX5_init_12 rfl rfl ?_
  refine jr_bipush dX5_init_13 kbp_24 ?_
  refine jk_newarr_i (mc := 0) (ms := 0) ks_40 (by decide) nn_24 (by decide) rfl (by decide) ((hz).1 40 (by decide)) dX5_init_15 ?_
  have hz := hz.mono (show 40 ≤ 41 by decide)
  refine jr_putr ff_X5_15 rfl rfl rfl (fun _ => rfl) (fun _ => rfl) dX5_init_17 ?_
  have hz := hz.u2R (i := 1) (x := some 40) (show 38 < 41 by decide)
  refine jr_aload_n dX5_init_20 rfl rfl ?_
  refine jr_iconst dX5_init_21 kic_0 ?_
  refine jr_puti ff_X5_18 rfl dX5_init_22 ?_
  have hz := hz.u2 (i := 2) (x := (0 : Int32)) (show 38 < 41 by decide)
  exact jr_return dX5_init_25 ⟨Or.inl ⟨rfl, rfl⟩, h⟩
set_option maxRecDepth 100000 in
set_option maxHeartbeats 4000000 in
theorem k_X8_37 {G : jG} {l : Launch} {d : Nat} {I : jS} {L : jL} {R : jR} {Q : Option Value → jW → Prop} (hz : jZ 38 I L R) (h : Q none (jKS.take 51, (u2 (u2 I 38 2 (0 : Int32)) 37 6 (-2 : Int32)), L, (u2R (u2R (u2R (u2R (u2R (u2R (u2R (u2R R 37 0 (some 1)) 37 1 (some 23)) 38 0 (some 39)) 38 1 (some 40)) 37 2 (some 38)) 37 3 (some 41)) 37 4 (some 49)) 37 5 (some 50)))) : jCall G l yX8_init cX8_init 3 none (d + 2) 13 240 [.ref 37, .ref 1, .ref 23] (jKS.take 38, I, L, R) Q := by
  refine jCall_of (n0 := 0) (ls := [some (.ref 37), some (.ref 1), some (.ref 23)]) (by decide +kernel) rfl (Nat.le_of_ble_eq_true rfl) ?_
  have hz0 := hz
  refine jr_aload_n dX8_init_0 rfl rfl ?_
  refine jr_objinit oi_X8_3 wo_m wo_c (Nat.le_of_ble_eq_true rfl) dX8_init_1 ?_
  refine jr_aload_n dX8_init_4 rfl rfl ?_
  refine jr_aload_n dX8_init_5 rfl rfl ?_
  refine jr_putr ff_X8_9 rfl rfl rfl (fun _ => rfl) (fun _ => rfl) dX8_init_6 ?_
  have hz := hz.u2R (i := 0) (x := some 1) (show 37 < 38 by decide)
  refine jr_aload_n dX8_init_9 rfl rfl ?_
  refine jr_aload_n dX8_init_10 rfl rfl ?_
  refine jr_putr ff_X8_15 rfl rfl rfl (fun _ => rfl) (fun _ => rfl) dX8_init_11 ?_
  have hz := hz.u2R (i := 1) (x := some 23) (show 37 < 38 by decide)
  refine jr_aload_n dX8_init_14 rfl rfl ?_
  refine jk_new (mc := 12) (ms := 237) (n := 38) ks_38 wc_X5 (by decide) cl_X8_19 in_X5 wi_X5 rfl (by decide) (df_X5 ((hz).1 38 (by decide)) ((hz).2.1 38 (by decide)) ((hz).2.2 38 (by decide))) dX8_init_15 ?_
  have hz := hz.mono (show 38 ≤ 39 by decide)
  refine jr_dup dX8_init_18 rfl ?_
  refine jr_callI (mc2 := 2) (ms2 := 48) (mc := 10) (ms := 189) im_X8_21 (r := 38) (av := []) (st := [.ref 38, .ref 37]) rfl rfl (Nat.le_of_ble_eq_true rfl) dX8_init_19 (k_X5_38 (d := d) (hz) ?_)
  have hz := hz.mono (show 39 ≤ 41 by decide)
  have hz := hz.u2 (i := 2) (x := (0 : Int32)) (show 38 < 41 by decide)
  have hz := hz.u2R (i := 0) (x := (some 39)) (show 38 < 41 by decide)
  have hz := hz.u2R (i := 1) (x := (some 40)) (show 38 < 41 by decide)
  show J G l yX8_init cX8_init 3 _ _ _ _ _ _ _ _
  refine jr_putr ff_X8_22 rfl rfl rfl (fun _ => rfl) (fun _ => rfl) dX8_init_22 ?_
  have hz := hz.u2R (i := 2) (x := some 38) (show 37 < 41 by decide)
  refine jr_aload_n dX8_init_25 rfl rfl ?_
  refine jr_bipush dX8_init_26 kbp_7 ?_
  refine jr_bipush dX8_init_28 kbp_24 ?_
  refine jr_multi_i (mc := 2) (ms := 14) cl_X8_26 wa_int (by decide) (by decide) nn_7 nn_24 (by decide) (by decide) (n0 := 41) rfl (by decide) (fun j _ => (hz).1 _ (by omega)) (fun j hj => by rw [(hz).2.2 41 (by decide)]; exact rr_row41 hj) dX8_init_30 ?_
  refine J.eq (w' := (jKS.take 49, (u2 I 38 2 (0 : Int32)), L, (u2R (u2R (u2R (u2R (u2R R 37 0 (some 1)) 37 1 (some 23)) 38 0 (some 39)) 38 1 (some 40)) 37 2 (some 38)))) ?_
  have hz := hz.mono (show 41 ≤ 49 by decide)
  refine jr_putr ff_X8_28 rfl rfl rfl (fun _ => rfl) (fun _ => rfl) dX8_init_34 ?_
  have hz := hz.u2R (i := 3) (x := some 41) (show 37 < 49 by decide)
  refine jr_aload_n dX8_init_37 rfl rfl ?_
  refine jr_bipush dX8_init_38 kbp_7 ?_
  refine jk_newarr_i (mc := 1) (ms := 7) ks_49 (by decide) nn_7 (by decide) rfl (by decide) ((hz).1 49 (by decide)) dX8_init_40 ?_
  have hz := hz.mono (show 49 ≤ 50 by decide)
  refine jr_putr ff_X8_31 rfl rfl rfl (fun _ => rfl) (fun _ => rfl) dX8_init_42 ?_
  have hz := hz.u2R (i := 4) (x := some 49) (show 37 < 50 by decide)
  refine jr_aload_n dX8_init_45 rfl rfl ?_
  refine jr_bipush dX8_init_46 kbp_7 ?_
  refine jk_newarr_i (mc := 0) (ms := 0) ks_50 (by decide) nn_7 (by decide) rfl (by decide) ((hz).1 50 (by decide)) dX8_init_48 ?_
  have hz := hz.mono (show 50 ≤ 51 by decide)
  refine jr_putr ff_X8_35 rfl rfl rfl (fun _ => rfl) (fun _ => rfl) dX8_init_50 ?_
  have hz := hz.u2R (i := 5) (x := some 50) (show 37 < 51 by decide)
  refine jr_aload_n dX8_init_53 rfl rfl ?_
  refine jr_bipush dX8_init_54 kbp_m2 ?_
  refine jr_puti ff_X8_38 rfl dX8_init_56 ?_
  have hz := hz.u2 (i := 6) (x := (-2 : Int32)) (show 37 < 51 by decide)
  exact jr_return dX8_init_59 ⟨Or.inl ⟨rfl, rfl⟩, h⟩
set_option maxRecDepth 100000 in
set_option maxHeartbeats 4000000 in
theorem k_X5_52 {G : jG} {l : Launch} {d : Nat} {I : jS} {L : jL} {R : jR} {Q : Option Value → jW → Prop} (hz : jZ 53 I L R) (h : Q none (jKS.take 55, (u2 I 52 2 (0 : Int32)), L, (u2R (u2R R 52 0 (some 53)) 52 1 (some 54)))) : jCall G l yX5_init cX5_init 1 none (d + 1) 2 48 [.ref 52] (jKS.take 53, I, L, R) Q := by
  refine jCall_of (n0 := 0) (ls := [some (.ref 52)]) (by decide +kernel) rfl (Nat.le_of_ble_eq_true rfl) ?_
  have hz0 := hz
  refine jr_aload_n dX5_init_0 rfl rfl ?_
  refine jr_objinit oi_X5_3 wo_m wo_c (Nat.le_of_ble_eq_true rfl) dX5_init_1 ?_
  refine jr_aload_n dX5_init_4 rfl rfl ?_
  refine jr_bipush dX5_init_5 kbp_24 ?_
  refine jk_newarr_i (mc := 1) (ms := 24) ks_53 (by decide) nn_24 (by decide) rfl (by decide) ((hz).1 53 (by decide)) dX5_init_7 ?_
  have hz := hz.mono (show 53 ≤ 54 by decide)
  refine jr_putr ff_X5_9 rfl rfl rfl (fun _ => rfl) (fun _ => rfl) dX5_init_9 ?_
  have hz := hz.u2R (i := 0) (x := some 53) (show 52 < 54 by decide)
  refine jr_aload_n dX5_init_12 rfl rfl ?_
  refine jr_bipush dX5_init_13 kbp_24 ?_
  refine jk_newarr_i (mc := 0) (ms := 0) ks_54 (by decide) nn_24 (by decide) rfl (by decide) ((hz).1 54 (by decide)) dX5_init_15 ?_
  have hz := hz.mono (show 54 ≤ 55 by decide)
  refine jr_putr ff_X5_15 rfl rfl rfl (fun _ => rfl) (fun _ => rfl) dX5_init_17 ?_
  have hz := hz.u2R (i := 1) (x := some 54) (show 52 < 55 by decide)
  refine jr_aload_n dX5_init_20 rfl rfl ?_
  refine jr_iconst dX5_init_21 kic_0 ?_
  refine jr_puti ff_X5_18 rfl dX5_init_22 ?_
  have hz := hz.u2 (i := 2) (x := (0 : Int32)) (show 52 < 55 by decide)
  exact jr_return dX5_init_25 ⟨Or.inl ⟨rfl, rfl⟩, h⟩
set_option maxRecDepth 100000 in
set_option maxHeartbeats 4000000 in
theorem k_X1_51 {G : jG} {l : Launch} {d : Nat} {I : jS} {L : jL} {R : jR} {Q : Option Value → jW → Prop} (hz : jZ 52 I L R) (h : Q none (jKS.take 57, (u2 I 52 2 (0 : Int32)), L, (u2R (u2R (u2R (u2R (u2R (u2R (u2R R 51 0 (some 1)) 51 1 (some 23)) 52 0 (some 53)) 52 1 (some 54)) 51 2 (some 52)) 51 3 (some 55)) 51 4 (some 56)))) : jCall G l yX1_init cX1_init 3 none (d + 2) 5 67 [.ref 51, .ref 1, .ref 23] (jKS.take 52, I, L, R) Q := by
  refine jCall_of (n0 := 0) (ls := [some (.ref 51), some (.ref 1), some (.ref 23)]) (by decide +kernel) rfl (Nat.le_of_ble_eq_true rfl) ?_
  have hz0 := hz
  refine jr_aload_n dX1_init_0 rfl rfl ?_
  refine jr_objinit oi_X1_3 wo_m wo_c (Nat.le_of_ble_eq_true rfl) dX1_init_1 ?_
  refine jr_aload_n dX1_init_4 rfl rfl ?_
  refine jr_aload_n dX1_init_5 rfl rfl ?_
  refine jr_putr ff_X1_9 rfl rfl rfl (fun _ => rfl) (fun _ => rfl) dX1_init_6 ?_
  have hz := hz.u2R (i := 0) (x := some 1) (show 51 < 52 by decide)
  refine jr_aload_n dX1_init_9 rfl rfl ?_
  refine jr_aload_n dX1_init_10 rfl rfl ?_
  refine jr_putr ff_X1_15 rfl rfl rfl (fun _ => rfl) (fun _ => rfl) dX1_init_11 ?_
  have hz := hz.u2R (i := 1) (x := some 23) (show 51 < 52 by decide)
  refine jr_aload_n dX1_init_14 rfl rfl ?_
  refine jk_new (mc := 4) (ms := 64) (n := 52) ks_52 wc_X5 (by decide) cl_X1_19 in_X5 wi_X5 rfl (by decide) (df_X5 ((hz).1 52 (by decide)) ((hz).2.1 52 (by decide)) ((hz).2.2 52 (by decide))) dX1_init_15 ?_
  have hz := hz.mono (show 52 ≤ 53 by decide)
  refine jr_dup dX1_init_18 rfl ?_
  refine jr_callI (mc2 := 2) (ms2 := 48) (mc := 2) (ms := 16) im_X1_21 (r := 52) (av := []) (st := [.ref 52, .ref 51]) rfl rfl (Nat.le_of_ble_eq_true rfl) dX1_init_19 (k_X5_52 (d := d) (hz) ?_)
  have hz := hz.mono (show 53 ≤ 55 by decide)
  have hz := hz.u2 (i := 2) (x := (0 : Int32)) (show 52 < 55 by decide)
  have hz := hz.u2R (i := 0) (x := (some 53)) (show 52 < 55 by decide)
  have hz := hz.u2R (i := 1) (x := (some 54)) (show 52 < 55 by decide)
  show J G l yX1_init cX1_init 3 _ _ _ _ _ _ _ _
  refine jr_putr ff_X1_22 rfl rfl rfl (fun _ => rfl) (fun _ => rfl) dX1_init_22 ?_
  have hz := hz.u2R (i := 2) (x := some 52) (show 51 < 55 by decide)
  refine jr_aload_n dX1_init_25 rfl rfl ?_
  refine jr_bipush dX1_init_26 kbp_8 ?_
  refine jk_newarr_i (mc := 1) (ms := 8) ks_55 (by decide) nn_8 (by decide) rfl (by decide) ((hz).1 55 (by decide)) dX1_init_28 ?_
  have hz := hz.mono (show 55 ≤ 56 by decide)
  refine jr_putr ff_X1_26 rfl rfl rfl (fun _ => rfl) (fun _ => rfl) dX1_init_30 ?_
  have hz := hz.u2R (i := 3) (x := some 55) (show 51 < 56 by decide)
  refine jr_aload_n dX1_init_33 rfl rfl ?_
  refine jr_bipush dX1_init_34 kbp_8 ?_
  refine jk_newarr_i (mc := 0) (ms := 0) ks_56 (by decide) nn_8 (by decide) rfl (by decide) ((hz).1 56 (by decide)) dX1_init_36 ?_
  have hz := hz.mono (show 56 ≤ 57 by decide)
  refine jr_putr ff_X1_30 rfl rfl rfl (fun _ => rfl) (fun _ => rfl) dX1_init_38 ?_
  have hz := hz.u2R (i := 4) (x := some 56) (show 51 < 57 by decide)
  exact jr_return dX1_init_41 ⟨Or.inl ⟨rfl, rfl⟩, h⟩
set_option maxRecDepth 100000 in
set_option maxHeartbeats 4000000 in
theorem k_X9_57 {G : jG} {l : Launch} {d : Nat} {I : jS} {L : jL} {R : jR} {Q : Option Value → jW → Prop} (hz : jZ 58 I L R) (h : Q none (jKS.take 68, (fl (fl I 58 6 (-1 : Int32)) 60 6 (-1 : Int32)), L, (u2R (u2R (u2R (u2R R 57 0 (some 58)) 57 1 (some 59)) 57 2 (some 60)) 57 3 (some 61)))) : jCall G l yX9_init cX9_init 1 none (d + 2) 10 384 [.ref 57] (jKS.take 58, I, L, R) Q := by
  refine jCall_of (n0 := 0) (ls := [some (.ref 57)]) (by decide +kernel) rfl (Nat.le_of_ble_eq_true rfl) ?_
  have hz0 := hz
  refine jr_aload_n dX9_init_0 rfl rfl ?_
  refine jr_objinit oi_X9_3 wo_m wo_c (Nat.le_of_ble_eq_true rfl) dX9_init_1 ?_
  refine jr_aload_n dX9_init_4 rfl rfl ?_
  refine jr_bipush dX9_init_5 kbp_6 ?_
  refine jk_newarr_i (mc := 9) (ms := 378) ks_58 (by decide) nn_6 (by decide) rfl (by decide) ((hz).1 58 (by decide)) dX9_init_7 ?_
  have hz := hz.mono (show 58 ≤ 59 by decide)
  refine jr_putr ff_X9_11 rfl rfl rfl (fun _ => rfl) (fun _ => rfl) dX9_init_9 ?_
  have hz := hz.u2R (i := 0) (x := some 58) (show 57 < 59 by decide)
  refine jr_aload_n dX9_init_12 rfl rfl ?_
  refine jr_bipush dX9_init_13 kbp_6 ?_
  refine jk_newarr_i (mc := 8) (ms := 372) ks_59 (by decide) nn_6 (by decide) rfl (by decide) ((hz).1 59 (by decide)) dX9_init_15 ?_
  have hz := hz.mono (show 59 ≤ 60 by decide)
  refine jr_putr ff_X9_15 rfl rfl rfl (fun _ => rfl) (fun _ => rfl) dX9_init_17 ?_
  have hz := hz.u2R (i := 1) (x := some 59) (show 57 < 60 by decide)
  refine jr_aload_n dX9_init_20 rfl rfl ?_
  refine jr_bipush dX9_init_21 kbp_6 ?_
  refine jk_newarr_i (mc := 7) (ms := 366) ks_60 (by decide) nn_6 (by decide) rfl (by decide) ((hz).1 60 (by decide)) dX9_init_23 ?_
  have hz := hz.mono (show 60 ≤ 61 by decide)
  refine jr_putr ff_X9_18 rfl rfl rfl (fun _ => rfl) (fun _ => rfl) dX9_init_25 ?_
  have hz := hz.u2R (i := 2) (x := some 60) (show 57 < 61 by decide)
  refine jr_aload_n dX9_init_28 rfl rfl ?_
  refine jr_bipush dX9_init_29 kbp_6 ?_
  refine jr_bipush dX9_init_31 kbp_60 ?_
  refine jr_multi_l (mc := 0) (ms := 0) cl_X9_21 wa_long (by decide) (by decide) nn_6 nn_60 (by decide) (by decide) (n0 := 61) rfl (by decide) (fun j _ => (hz).2.1 _ (by omega)) (fun j hj => by rw [(hz).2.2 61 (by decide)]; exact rr_row61 hj) dX9_init_33 ?_
  refine J.eq (w' := (jKS.take 68, I, L, (u2R (u2R (u2R R 57 0 (some 58)) 57 1 (some 59)) 57 2 (some 60)))) ?_
  have hz := hz.mono (show 61 ≤ 68 by decide)
  refine jr_putr ff_X9_23 rfl rfl rfl (fun _ => rfl) (fun _ => rfl) dX9_init_37 ?_
  have hz := hz.u2R (i := 3) (x := some 61) (show 57 < 68 by decide)
  refine jr_aload_n dX9_init_40 rfl rfl ?_
  refine jr_geta ff_X9_11 rfl ((u2Ri (by decide)).trans ((u2Ri (by decide)).trans ((u2Ri (by decide)).trans u2Re))) dX9_init_41 ?_
  refine jr_iconst dX9_init_44 kic_m1 ?_
  refine jr_callS (mc2 := 0) (ms2 := 0) (mc := 0) (ms := 0) vm_X9_26 (av := [.ref 58, .int (-1 : Int32)]) (st := []) rfl rfl (Nat.le_of_ble_eq_true rfl) dX9_init_45 (k_fill rfl (by decide) ?_)
  have hz := hz.fl (k := 6) (x := (-1 : Int32)) (show 58 < 68 by decide)
  show J G l yX9_init cX9_init 1 _ _ _ _ _ _ _ _
  refine jr_aload_n dX9_init_48 rfl rfl ?_
  refine jr_geta ff_X9_18 rfl ((u2Ri (by decide)).trans u2Re) dX9_init_49 ?_
  refine jr_iconst dX9_init_52 kic_m1 ?_
  refine jr_callS (mc2 := 0) (ms2 := 0) (mc := 0) (ms := 0) vm_X9_26 (av := [.ref 60, .int (-1 : Int32)]) (st := []) rfl rfl (Nat.le_of_ble_eq_true rfl) dX9_init_53 (k_fill rfl (by decide) ?_)
  have hz := hz.fl (k := 6) (x := (-1 : Int32)) (show 60 < 68 by decide)
  show J G l yX9_init cX9_init 1 _ _ _ _ _ _ _ _
  exact jr_return dX9_init_56 ⟨Or.inl ⟨rfl, rfl⟩, h⟩
set_option maxRecDepth 100000 in
set_option maxHeartbeats 4000000 in
theorem k_X0_68 {G : jG} {l : Launch} {d : Nat} {I : jS} {L : jL} {R : jR} {Q : Option Value → jW → Prop} (hz : jZ 69 I L R) (h : Q none (jKS.take 71, (u2 (u2 (u2 I 68 2 (0 : Int32)) 68 3 (0 : Int32)) 68 4 (0 : Int32)), L, (u2R (u2R R 68 0 (some 69)) 68 1 (some 70)))) : jCall G l yX0_init cX0_init 1 none (d + 2) 2 74 [.ref 68] (jKS.take 69, I, L, R) Q := by
  refine jCall_of (n0 := 0) (ls := [some (.ref 68)]) (by decide +kernel) rfl (Nat.le_of_ble_eq_true rfl) ?_
  have hz0 := hz
  refine jr_aload_n dX0_init_0 rfl rfl ?_
  refine jr_objinit oi_X0_3 wo_m wo_c (Nat.le_of_ble_eq_true rfl) dX0_init_1 ?_
  refine jr_aload_n dX0_init_4 rfl rfl ?_
  refine jr_bipush dX0_init_5 kbp_50 ?_
  refine jk_newarr_i (mc := 1) (ms := 24) ks_69 (by decide) nn_50 (by decide) rfl (by decide) ((hz).1 69 (by decide)) dX0_init_7 ?_
  have hz := hz.mono (show 69 ≤ 70 by decide)
  refine jr_putr ff_X0_11 rfl rfl rfl (fun _ => rfl) (fun _ => rfl) dX0_init_9 ?_
  have hz := hz.u2R (i := 0) (x := some 69) (show 68 < 70 by decide)
  refine jr_aload_n dX0_init_12 rfl rfl ?_
  refine jr_bipush dX0_init_13 kbp_24 ?_
  refine jk_newarr_i (mc := 0) (ms := 0) ks_70 (by decide) nn_24 (by decide) rfl (by decide) ((hz).1 70 (by decide)) dX0_init_15 ?_
  have hz := hz.mono (show 70 ≤ 71 by decide)
  refine jr_putr ff_X0_15 rfl rfl rfl (fun _ => rfl) (fun _ => rfl) dX0_init_17 ?_
  have hz := hz.u2R (i := 1) (x := some 70) (show 68 < 71 by decide)
  refine jr_aload_n dX0_init_20 rfl rfl ?_
  refine jr_iconst dX0_init_21 kic_0 ?_
  refine jr_puti ff_X0_18 rfl dX0_init_22 ?_
  have hz := hz.u2 (i := 2) (x := (0 : Int32)) (show 68 < 71 by decide)
  refine jr_aload_n dX0_init_25 rfl rfl ?_
  refine jr_iconst dX0_init_26 kic_0 ?_
  refine jr_puti ff_X0_22 rfl dX0_init_27 ?_
  have hz := hz.u2 (i := 3) (x := (0 : Int32)) (show 68 < 71 by decide)
  refine jr_aload_n dX0_init_30 rfl rfl ?_
  refine jr_iconst dX0_init_31 kic_0 ?_
  refine jr_puti ff_X0_25 rfl dX0_init_32 ?_
  have hz := hz.u2 (i := 4) (x := (0 : Int32)) (show 68 < 71 by decide)
  exact jr_return dX0_init_35 ⟨Or.inl ⟨rfl, rfl⟩, h⟩
set_option maxRecDepth 100000 in
set_option maxHeartbeats 4000000 in
theorem k_X11_0 {G : jG} {l : Launch} {d : Nat} {I : jS} {L : jL} {R : jR} {Q : Option Value → jW → Prop} (hF : jFst G) (hz : jZ 1 I L R) (h : Q none (jKS.take 71, (u2 (u2 (u2 (fl (fl (u2 (u2 (u2 (u2 (u2 (u2 (u2 (u2 (u2 (u2 (u2 (u2 (u2 (u2 (u2 (u2 (u2 (u2 (u2 (u2 (u2 (u2 (u2 (fl (fl (fl (fl (fl (fl (fl (fl (fl I 3 24 (30 : Int32)) 4 24 (1 : Int32)) 5 24 (0 : Int32)) 6 24 (10 : Int32)) 7 24 (1 : Int32)) 8 24 (0 : Int32)) 9 24 (5 : Int32)) 10 24 (2 : Int32)) 11 24 (999 : Int32)) 1 1 (0 : Int32)) 12 4 (0 : Int32)) 12 5 (0 : Int32)) 17 5 (0 : Int32)) 17 6 (0 : Int32)) 17 7 (-1 : Int32)) 17 8 (0 : Int32)) 17 9 (0 : Int32)) 23 2 (0 : Int32)) 23 3 (0 : Int32)) 23 4 (0 : Int32)) 23 5 (0 : Int32)) 25 2 (0 : Int32)) 28 4 (-2 : Int32)) 24 4 (0 : Int32)) 24 5 (0 : Int32)) 32 2 (0 : Int32)) 31 5 (0 : Int32)) 31 6 (0 : Int32)) 31 7 (-2 : Int32)) 38 2 (0 : Int32)) 37 6 (-2 : Int32)) 52 2 (0 : Int32)) 58 6 (-1 : Int32)) 60 6 (-1 : Int32)) 68 2 (0 : Int32)) 68 3 (0 : Int32)) 68 4 (0 : Int32)), L, (u2R (u2R (u2R (u2R (u2R (u2R (u2R (u2R (u2R (u2R (u2R (u2R (u2R (u2R (u2R (u2R (u2R (u2R (u2R (u2R (u2R (u2R (u2R (u2R (u2R (u2R (u2R (u2R (u2R (u2R (u2R (u2R (u2R (u2R (u2R (u2R (u2R (u2R (u2R (u2R (u2R (u2R (u2R (u2R (u2R (u2R (u2R (u2R (u2R (u2R (u2R (u2R (u2R (u2R (u2R (u2R R 1 0 (some 2)) 0 0 (some 1)) 12 0 (some 13)) 12 1 (some 14)) 12 2 (some 15)) 12 3 (some 16)) 0 1 (some 12)) 17 0 (some 18)) 17 1 (some 19)) 17 2 (some 20)) 17 3 (some 21)) 17 4 (some 22)) 0 2 (some 17)) 23 0 (some 1)) 23 1 (some 17)) 0 3 (some 23)) 25 0 (some 26)) 25 1 (some 27)) 24 0 (some 25)) 24 1 (some 28)) 24 2 (some 29)) 24 3 (some 30)) 0 4 (some 24)) 31 0 (some 1)) 31 1 (some 23)) 32 0 (some 33)) 32 1 (some 34)) 31 2 (some 32)) 31 3 (some 35)) 31 4 (some 36)) 0 5 (some 31)) 37 0 (some 1)) 37 1 (some 23)) 38 0 (some 39)) 38 1 (some 40)) 37 2 (some 38)) 37 3 (some 41)) 37 4 (some 49)) 37 5 (some 50)) 0 6 (some 37)) 51 0 (some 1)) 51 1 (some 23)) 52 0 (some 53)) 52 1 (some 54)) 51 2 (some 52)) 51 3 (some 55)) 51 4 (some 56)) 0 7 (some 51)) 57 0 (some 58)) 57 1 (some 59)) 57 2 (some 60)) 57 3 (some 61)) 0 8 (some 57)) 68 0 (some 69)) 68 1 (some 70)) 0 9 (some 68)))) : jCall G l yX11_init cX11_init 1 none (d + 3) 70 1854 [.ref 0] (jKS.take 1, I, L, R) Q := by
  refine jCall_of (n0 := 0) (ls := [some (.ref 0)]) (by decide +kernel) rfl (Nat.le_of_ble_eq_true rfl) ?_
  have hz0 := hz
  refine jr_aload_n dX11_init_0 rfl rfl ?_
  refine jr_objinit oi_X11_1 wo_m wo_c (Nat.le_of_ble_eq_true rfl) dX11_init_1 ?_
  refine jr_aload_n dX11_init_4 rfl rfl ?_
  refine jk_new (mc := 69) (ms := 1852) (n := 1) ks_1 wc_X7 (by decide) cl_X11_7 in_X7 wi_X7 rfl (by decide) (df_X7 ((hz).1 1 (by decide)) ((hz).2.1 1 (by decide)) ((hz).2.2 1 (by decide))) dX11_init_5 ?_
  have hz := hz.mono (show 1 ≤ 2 by decide)
  refine jr_dup dX11_init_8 rfl ?_
  refine jr_callI (mc2 := 10) (ms2 := 225) (mc := 59) (ms := 1627) im_X11_9 (r := 1) (av := []) (st := [.ref 1, .ref 0]) rfl rfl (Nat.le_of_ble_eq_true rfl) dX11_init_9 (k_X7_1 (d := d) hF (hz) ?_)
  have hz := hz.mono (show 2 ≤ 12 by decide)
  have hz := hz.fl (k := 24) (x := (30 : Int32)) (show 3 < 12 by decide)
  have hz := hz.fl (k := 24) (x := (1 : Int32)) (show 4 < 12 by decide)
  have hz := hz.fl (k := 24) (x := (0 : Int32)) (show 5 < 12 by decide)
  have hz := hz.fl (k := 24) (x := (10 : Int32)) (show 6 < 12 by decide)
  have hz := hz.fl (k := 24) (x := (1 : Int32)) (show 7 < 12 by decide)
  have hz := hz.fl (k := 24) (x := (0 : Int32)) (show 8 < 12 by decide)
  have hz := hz.fl (k := 24) (x := (5 : Int32)) (show 9 < 12 by decide)
  have hz := hz.fl (k := 24) (x := (2 : Int32)) (show 10 < 12 by decide)
  have hz := hz.fl (k := 24) (x := (999 : Int32)) (show 11 < 12 by decide)
  have hz := hz.u2 (i := 1) (x := (0 : Int32)) (show 1 < 12 by decide)
  have hz := hz.u2R (i := 0) (x := (some 2)) (show 1 < 12 by decide)
  show J G l yX11_init cX11_init 1 _ _ _ _ _ _ _ _
  refine jr_putr ff_X11_10 rfl rfl rfl (fun _ => rfl) (fun _ => rfl) dX11_init_12 ?_
  have hz := hz.u2R (i := 0) (x := some 1) (show 0 < 12 by decide)
  refine jr_aload_n dX11_init_15 rfl rfl ?_
  refine jk_new (mc := 58) (ms := 1621) (n := 12) ks_12 wc_X2 (by decide) cl_X11_16 in_X2 wi_X2 rfl (by decide) (df_X2 ((hz).1 12 (by decide)) ((hz).2.1 12 (by decide)) ((hz).2.2 12 (by decide))) dX11_init_16 ?_
  have hz := hz.mono (show 12 ≤ 13 by decide)
  refine jr_dup dX11_init_19 rfl ?_
  refine jr_callI (mc2 := 4) (ms2 := 160) (mc := 54) (ms := 1461) im_X11_18 (r := 12) (av := []) (st := [.ref 12, .ref 0]) rfl rfl (Nat.le_of_ble_eq_true rfl) dX11_init_20 (k_X2_12 (d := d) (hz) ?_)
  have hz := hz.mono (show 13 ≤ 17 by decide)
  have hz := hz.u2 (i := 4) (x := (0 : Int32)) (show 12 < 17 by decide)
  have hz := hz.u2 (i := 5) (x := (0 : Int32)) (show 12 < 17 by decide)
  have hz := hz.u2R (i := 0) (x := (some 13)) (show 12 < 17 by decide)
  have hz := hz.u2R (i := 1) (x := (some 14)) (show 12 < 17 by decide)
  have hz := hz.u2R (i := 2) (x := (some 15)) (show 12 < 17 by decide)
  have hz := hz.u2R (i := 3) (x := (some 16)) (show 12 < 17 by decide)
  show J G l yX11_init cX11_init 1 _ _ _ _ _ _ _ _
  refine jr_putr ff_X11_19 rfl rfl rfl (fun _ => rfl) (fun _ => rfl) dX11_init_23 ?_
  have hz := hz.u2R (i := 1) (x := some 12) (show 0 < 17 by decide)
  refine jr_aload_n dX11_init_26 rfl rfl ?_
  refine jk_new (mc := 53) (ms := 1451) (n := 17) ks_17 wc_X6 (by decide) cl_X11_23 in_X6 wi_X6 rfl (by decide) (df_X6 ((hz).1 17 (by decide)) ((hz).2.1 17 (by decide)) ((hz).2.2 17 (by decide))) dX11_init_27 ?_
  have hz := hz.mono (show 17 ≤ 18 by decide)
  refine jr_dup dX11_init_30 rfl ?_
  refine jr_callI (mc2 := 5) (ms2 := 489) (mc := 48) (ms := 962) im_X11_25 (r := 17) (av := []) (st := [.ref 17, .ref 0]) rfl rfl (Nat.le_of_ble_eq_true rfl) dX11_init_31 (k_X6_17 (d := d) (hz) ?_)
  have hz := hz.mono (show 18 ≤ 23 by decide)
  have hz := hz.u2 (i := 5) (x := (0 : Int32)) (show 17 < 23 by decide)
  have hz := hz.u2 (i := 6) (x := (0 : Int32)) (show 17 < 23 by decide)
  have hz := hz.u2 (i := 7) (x := (-1 : Int32)) (show 17 < 23 by decide)
  have hz := hz.u2 (i := 8) (x := (0 : Int32)) (show 17 < 23 by decide)
  have hz := hz.u2 (i := 9) (x := (0 : Int32)) (show 17 < 23 by decide)
  have hz := hz.u2R (i := 0) (x := (some 18)) (show 17 < 23 by decide)
  have hz := hz.u2R (i := 1) (x := (some 19)) (show 17 < 23 by decide)
  have hz := hz.u2R (i := 2) (x := (some 20)) (show 17 < 23 by decide)
  have hz := hz.u2R (i := 3) (x := (some 21)) (show 17 < 23 by decide)
  have hz := hz.u2R (i := 4) (x := (some 22)) (show 17 < 23 by decide)
  show J G l yX11_init cX11_init 1 _ _ _ _ _ _ _ _
  refine jr_putr ff_X11_26 rfl rfl rfl (fun _ => rfl) (fun _ => rfl) dX11_init_34 ?_
  have hz := hz.u2R (i := 2) (x := some 17) (show 0 < 23 by decide)
  refine jr_aload_n dX11_init_37 rfl rfl ?_
  refine jk_new (mc := 47) (ms := 956) (n := 23) ks_23 wc_X3 (by decide) cl_X11_30 in_X3 wi_X3 rfl (by decide) (df_X3 ((hz).1 23 (by decide)) ((hz).2.1 23 (by decide)) ((hz).2.2 23 (by decide))) dX11_init_38 ?_
  have hz := hz.mono (show 23 ≤ 24 by decide)
  refine jr_dup dX11_init_41 rfl ?_
  refine jr_aload_n dX11_init_42 rfl rfl ?_
  refine jr_geta ff_X11_10 rfl ((u2Ri (by decide)).trans ((u2Rn (by decide)).trans ((u2Rn (by decide)).trans ((u2Rn (by decide)).trans ((u2Rn (by decide)).trans ((u2Rn (by decide)).trans ((u2Ri (by decide)).trans ((u2Rn (by decide)).trans ((u2Rn (by decide)).trans ((u2Rn (by decide)).trans ((u2Rn (by decide)).trans u2Re))))))))))) dX11_init_43 ?_
  refine jr_aload_n dX11_init_46 rfl rfl ?_
  refine jr_geta ff_X11_26 rfl u2Re dX11_init_47 ?_
  refine jr_callI (mc2 := 0) (ms2 := 0) (mc := 47) (ms := 956) im_X11_32 (r := 23) (av := [.ref 1, .ref 17]) (st := [.ref 23, .ref 0]) rfl rfl (Nat.le_of_ble_eq_true rfl) dX11_init_50 (k_X3_23 (d := d) (hz) ?_)
  have hz := hz.mono (show 24 ≤ 24 by decide)
  have hz := hz.u2 (i := 2) (x := (0 : Int32)) (show 23 < 24 by decide)
  have hz := hz.u2 (i := 3) (x := (0 : Int32)) (show 23 < 24 by decide)
  have hz := hz.u2 (i := 4) (x := (0 : Int32)) (show 23 < 24 by decide)
  have hz := hz.u2 (i := 5) (x := (0 : Int32)) (show 23 < 24 by decide)
  have hz := hz.u2R (i := 0) (x := (some 1)) (show 23 < 24 by decide)
  have hz := hz.u2R (i := 1) (x := (some 17)) (show 23 < 24 by decide)
  show J G l yX11_init cX11_init 1 _ _ _ _ _ _ _ _
  refine jr_putr ff_X11_35 rfl rfl rfl (fun _ => rfl) (fun _ => rfl) dX11_init_53 ?_
  have hz := hz.u2R (i := 3) (x := some 23) (show 0 < 24 by decide)
  refine jr_aload_n dX11_init_56 rfl rfl ?_
  refine jk_new (mc := 46) (ms := 950) (n := 24) ks_24 wc_X4 (by decide) cl_X11_39 in_X4 wi_X4 rfl (by decide) (df_X4 ((hz).1 24 (by decide)) ((hz).2.1 24 (by decide)) ((hz).2.2 24 (by decide))) dX11_init_57 ?_
  have hz := hz.mono (show 24 ≤ 25 by decide)
  refine jr_dup dX11_init_60 rfl ?_
  refine jr_callI (mc2 := 6) (ms2 := 85) (mc := 40) (ms := 865) im_X11_41 (r := 24) (av := []) (st := [.ref 24, .ref 0]) rfl rfl (Nat.le_of_ble_eq_true rfl) dX11_init_61 (k_X4_24 (d := d) (hz) ?_)
  have hz := hz.mono (show 25 ≤ 31 by decide)
  have hz := hz.u2 (i := 2) (x := (0 : Int32)) (show 25 < 31 by decide)
  have hz := hz.u2 (i := 4) (x := (-2 : Int32)) (show 28 < 31 by decide)
  have hz := hz.u2 (i := 4) (x := (0 : Int32)) (show 24 < 31 by decide)
  have hz := hz.u2 (i := 5) (x := (0 : Int32)) (show 24 < 31 by decide)
  have hz := hz.u2R (i := 0) (x := (some 26)) (show 25 < 31 by decide)
  have hz := hz.u2R (i := 1) (x := (some 27)) (show 25 < 31 by decide)
  have hz := hz.u2R (i := 0) (x := (some 25)) (show 24 < 31 by decide)
  have hz := hz.u2R (i := 1) (x := (some 28)) (show 24 < 31 by decide)
  have hz := hz.u2R (i := 2) (x := (some 29)) (show 24 < 31 by decide)
  have hz := hz.u2R (i := 3) (x := (some 30)) (show 24 < 31 by decide)
  show J G l yX11_init cX11_init 1 _ _ _ _ _ _ _ _
  refine jr_putr ff_X11_42 rfl rfl rfl (fun _ => rfl) (fun _ => rfl) dX11_init_64 ?_
  have hz := hz.u2R (i := 4) (x := some 24) (show 0 < 31 by decide)
  refine jr_aload_n dX11_init_67 rfl rfl ?_
  refine jk_new (mc := 39) (ms := 857) (n := 31) ks_31 wc_X10 (by decide) cl_X11_46 in_X10 wi_X10 rfl (by decide) (df_X10 ((hz).1 31 (by decide)) ((hz).2.1 31 (by decide)) ((hz).2.2 31 (by decide))) dX11_init_68 ?_
  have hz := hz.mono (show 31 ≤ 32 by decide)
  refine jr_dup dX11_init_71 rfl ?_
  refine jr_aload_n dX11_init_72 rfl rfl ?_
  refine jr_geta ff_X11_10 rfl ((u2Ri (by decide)).trans ((u2Rn (by decide)).trans ((u2Rn (by decide)).trans ((u2Rn (by decide)).trans ((u2Rn (by decide)).trans ((u2Rn (by decide)).trans ((u2Rn (by decide)).trans ((u2Ri (by decide)).trans ((u2Rn (by decide)).trans ((u2Rn (by decide)).trans ((u2Ri (by decide)).trans ((u2Rn (by decide)).trans ((u2Rn (by decide)).trans ((u2Rn (by decide)).trans ((u2Rn (by decide)).trans ((u2Rn (by decide)).trans ((u2Ri (by decide)).trans ((u2Rn (by decide)).trans ((u2Rn (by decide)).trans ((u2Rn (by decide)).trans ((u2Rn (by decide)).trans u2Re))))))))))))))))))))) dX11_init_73 ?_
  refine jr_aload_n dX11_init_76 rfl rfl ?_
  refine jr_geta ff_X11_35 rfl ((u2Ri (by decide)).trans ((u2Rn (by decide)).trans ((u2Rn (by decide)).trans ((u2Rn (by decide)).trans ((u2Rn (by decide)).trans ((u2Rn (by decide)).trans ((u2Rn (by decide)).trans u2Re))))))) dX11_init_77 ?_
  refine jr_callI (mc2 := 5) (ms2 := 71) (mc := 34) (ms := 786) im_X11_48 (r := 31) (av := [.ref 1, .ref 23]) (st := [.ref 31, .ref 0]) rfl rfl (Nat.le_of_ble_eq_true rfl) dX11_init_80 (k_X10_31 (d := d) (hz) ?_)
  have hz := hz.mono (show 32 ≤ 37 by decide)
  have hz := hz.u2 (i := 2) (x := (0 : Int32)) (show 32 < 37 by decide)
  have hz := hz.u2 (i := 5) (x := (0 : Int32)) (show 31 < 37 by decide)
  have hz := hz.u2 (i := 6) (x := (0 : Int32)) (show 31 < 37 by decide)
  have hz := hz.u2 (i := 7) (x := (-2 : Int32)) (show 31 < 37 by decide)
  have hz := hz.u2R (i := 0) (x := (some 1)) (show 31 < 37 by decide)
  have hz := hz.u2R (i := 1) (x := (some 23)) (show 31 < 37 by decide)
  have hz := hz.u2R (i := 0) (x := (some 33)) (show 32 < 37 by decide)
  have hz := hz.u2R (i := 1) (x := (some 34)) (show 32 < 37 by decide)
  have hz := hz.u2R (i := 2) (x := (some 32)) (show 31 < 37 by decide)
  have hz := hz.u2R (i := 3) (x := (some 35)) (show 31 < 37 by decide)
  have hz := hz.u2R (i := 4) (x := (some 36)) (show 31 < 37 by decide)
  show J G l yX11_init cX11_init 1 _ _ _ _ _ _ _ _
  refine jr_putr ff_X11_51 rfl rfl rfl (fun _ => rfl) (fun _ => rfl) dX11_init_83 ?_
  have hz := hz.u2R (i := 5) (x := some 31) (show 0 < 37 by decide)
  refine jr_aload_n dX11_init_86 rfl rfl ?_
  refine jk_new (mc := 33) (ms := 779) (n := 37) ks_37 wc_X8 (by decide) cl_X11_55 in_X8 wi_X8 rfl (by decide) (df_X8 ((hz).1 37 (by decide)) ((hz).2.1 37 (by decide)) ((hz).2.2 37 (by decide))) dX11_init_87 ?_
  have hz := hz.mono (show 37 ≤ 38 by decide)
  refine jr_dup dX11_init_90 rfl ?_
  refine jr_aload_n dX11_init_91 rfl rfl ?_
  refine jr_geta ff_X11_10 rfl ((u2Ri (by decide)).trans ((u2Rn (by decide)).trans ((u2Rn (by decide)).trans ((u2Rn (by decide)).trans ((u2Rn (by decide)).trans ((u2Rn (by decide)).trans ((u2Rn (by decide)).trans ((u2Rn (by decide)).trans ((u2Ri (by decide)).trans ((u2Rn (by decide)).trans ((u2Rn (by decide)).trans ((u2Rn (by decide)).trans ((u2Rn (by decide)).trans ((u2Rn (by decide)).trans ((u2Rn (by decide)).trans ((u2Ri (by decide)).trans ((u2Rn (by decide)).trans ((u2Rn (by decide)).trans ((u2Ri (by decide)).trans ((u2Rn (by decide)).trans ((u2Rn (by decide)).trans ((u2Rn (by decide)).trans ((u2Rn (by decide)).trans ((u2Rn (by decide)).trans ((u2Ri (by decide)).trans ((u2Rn (by decide)).trans ((u2Rn (by decide)).trans ((u2Rn (by decide)).trans ((u2Rn (by decide)).trans u2Re))))))))))))))))))))))))))))) dX11_init_92 ?_
  refine jr_aload_n dX11_init_95 rfl rfl ?_
  refine jr_geta ff_X11_35 rfl ((u2Ri (by decide)).trans ((u2Rn (by decide)).trans ((u2Rn (by decide)).trans ((u2Rn (by decide)).trans ((u2Rn (by decide)).trans ((u2Rn (by decide)).trans ((u2Rn (by decide)).trans ((u2Rn (by decide)).trans ((u2Ri (by decide)).trans ((u2Rn (by decide)).trans ((u2Rn (by decide)).trans ((u2Rn (by decide)).trans ((u2Rn (by decide)).trans ((u2Rn (by decide)).trans ((u2Rn (by decide)).trans u2Re))))))))))))))) dX11_init_96 ?_
  refine jr_callI (mc2 := 13) (ms2 := 240) (mc := 20) (ms := 539) im_X11_57 (r := 37) (av := [.ref 1, .ref 23]) (st := [.ref 37, .ref 0]) rfl rfl (Nat.le_of_ble_eq_true rfl) dX11_init_99 (k_X8_37 (d := d) (hz) ?_)
  have hz := hz.mono (show 38 ≤ 51 by decide)
  have hz := hz.u2 (i := 2) (x := (0 : Int32)) (show 38 < 51 by decide)
  have hz := hz.u2 (i := 6) (x := (-2 : Int32)) (show 37 < 51 by decide)
  have hz := hz.u2R (i := 0) (x := (some 1)) (show 37 < 51 by decide)
  have hz := hz.u2R (i := 1) (x := (some 23)) (show 37 < 51 by decide)
  have hz := hz.u2R (i := 0) (x := (some 39)) (show 38 < 51 by decide)
  have hz := hz.u2R (i := 1) (x := (some 40)) (show 38 < 51 by decide)
  have hz := hz.u2R (i := 2) (x := (some 38)) (show 37 < 51 by decide)
  have hz := hz.u2R (i := 3) (x := (some 41)) (show 37 < 51 by decide)
  have hz := hz.u2R (i := 4) (x := (some 49)) (show 37 < 51 by decide)
  have hz := hz.u2R (i := 5) (x := (some 50)) (show 37 < 51 by decide)
  show J G l yX11_init cX11_init 1 _ _ _ _ _ _ _ _
  refine jr_putr ff_X11_58 rfl rfl rfl (fun _ => rfl) (fun _ => rfl) dX11_init_102 ?_
  have hz := hz.u2R (i := 6) (x := some 37) (show 0 < 51 by decide)
  refine jr_aload_n dX11_init_105 rfl rfl ?_
  refine jk_new (mc := 19) (ms := 534) (n := 51) ks_51 wc_X1 (by decide) cl_X11_62 in_X1 wi_X1 rfl (by decide) (df_X1 ((hz).1 51 (by decide)) ((hz).2.1 51 (by decide)) ((hz).2.2 51 (by decide))) dX11_init_106 ?_
  have hz := hz.mono (show 51 ≤ 52 by decide)
  refine jr_dup dX11_init_109 rfl ?_
  refine jr_aload_n dX11_init_110 rfl rfl ?_
  refine jr_geta ff_X11_10 rfl ((u2Ri (by decide)).trans ((u2Rn (by decide)).trans ((u2Rn (by decide)).trans ((u2Rn (by decide)).trans ((u2Rn (by decide)).trans ((u2Rn (by decide)).trans ((u2Rn (by decide)).trans ((u2Rn (by decide)).trans ((u2Rn (by decide)).trans ((u2Ri (by decide)).trans ((u2Rn (by decide)).trans ((u2Rn (by decide)).trans ((u2Rn (by decide)).trans ((u2Rn (by decide)).trans ((u2Rn (by decide)).trans ((u2Rn (by decide)).trans ((u2Rn (by decide)).trans ((u2Ri (by decide)).trans ((u2Rn (by decide)).trans ((u2Rn (by decide)).trans ((u2Rn (by decide)).trans ((u2Rn (by decide)).trans ((u2Rn (by decide)).trans ((u2Rn (by decide)).trans ((u2Ri (by decide)).trans ((u2Rn (by decide)).trans ((u2Rn (by decide)).trans ((u2Ri (by decide)).trans ((u2Rn (by decide)).trans ((u2Rn (by decide)).trans ((u2Rn (by decide)).trans ((u2Rn (by decide)).trans ((u2Rn (by decide)).trans ((u2Ri (by decide)).trans ((u2Rn (by decide)).trans ((u2Rn (by decide)).trans ((u2Rn (by decide)).trans ((u2Rn (by decide)).trans u2Re)))))))))))))))))))))))))))))))))))))) dX11_init_111 ?_
  refine jr_aload_n dX11_init_114 rfl rfl ?_
  refine jr_geta ff_X11_35 rfl ((u2Ri (by decide)).trans ((u2Rn (by decide)).trans ((u2Rn (by decide)).trans ((u2Rn (by decide)).trans ((u2Rn (by decide)).trans ((u2Rn (by decide)).trans ((u2Rn (by decide)).trans ((u2Rn (by decide)).trans ((u2Rn (by decide)).trans ((u2Ri (by decide)).trans ((u2Rn (by decide)).trans ((u2Rn (by decide)).trans ((u2Rn (by decide)).trans ((u2Rn (by decide)).trans ((u2Rn (by decide)).trans ((u2Rn (by decide)).trans ((u2Rn (by decide)).trans ((u2Ri (by decide)).trans ((u2Rn (by decide)).trans ((u2Rn (by decide)).trans ((u2Rn (by decide)).trans ((u2Rn (by decide)).trans ((u2Rn (by decide)).trans ((u2Rn (by decide)).trans u2Re)))))))))))))))))))))))) dX11_init_115 ?_
  refine jr_callI (mc2 := 5) (ms2 := 67) (mc := 14) (ms := 467) im_X11_64 (r := 51) (av := [.ref 1, .ref 23]) (st := [.ref 51, .ref 0]) rfl rfl (Nat.le_of_ble_eq_true rfl) dX11_init_118 (k_X1_51 (d := d) (hz) ?_)
  have hz := hz.mono (show 52 ≤ 57 by decide)
  have hz := hz.u2 (i := 2) (x := (0 : Int32)) (show 52 < 57 by decide)
  have hz := hz.u2R (i := 0) (x := (some 1)) (show 51 < 57 by decide)
  have hz := hz.u2R (i := 1) (x := (some 23)) (show 51 < 57 by decide)
  have hz := hz.u2R (i := 0) (x := (some 53)) (show 52 < 57 by decide)
  have hz := hz.u2R (i := 1) (x := (some 54)) (show 52 < 57 by decide)
  have hz := hz.u2R (i := 2) (x := (some 52)) (show 51 < 57 by decide)
  have hz := hz.u2R (i := 3) (x := (some 55)) (show 51 < 57 by decide)
  have hz := hz.u2R (i := 4) (x := (some 56)) (show 51 < 57 by decide)
  show J G l yX11_init cX11_init 1 _ _ _ _ _ _ _ _
  refine jr_putr ff_X11_65 rfl rfl rfl (fun _ => rfl) (fun _ => rfl) dX11_init_121 ?_
  have hz := hz.u2R (i := 7) (x := some 51) (show 0 < 57 by decide)
  refine jr_aload_n dX11_init_124 rfl rfl ?_
  refine jk_new (mc := 13) (ms := 463) (n := 57) ks_57 wc_X9 (by decide) cl_X11_69 in_X9 wi_X9 rfl (by decide) (df_X9 ((hz).1 57 (by decide)) ((hz).2.1 57 (by decide)) ((hz).2.2 57 (by decide))) dX11_init_125 ?_
  have hz := hz.mono (show 57 ≤ 58 by decide)
  refine jr_dup dX11_init_128 rfl ?_
  refine jr_callI (mc2 := 10) (ms2 := 384) (mc := 3) (ms := 79) im_X11_71 (r := 57) (av := []) (st := [.ref 57, .ref 0]) rfl rfl (Nat.le_of_ble_eq_true rfl) dX11_init_129 (k_X9_57 (d := d) (hz) ?_)
  have hz := hz.mono (show 58 ≤ 68 by decide)
  have hz := hz.fl (k := 6) (x := (-1 : Int32)) (show 58 < 68 by decide)
  have hz := hz.fl (k := 6) (x := (-1 : Int32)) (show 60 < 68 by decide)
  have hz := hz.u2R (i := 0) (x := (some 58)) (show 57 < 68 by decide)
  have hz := hz.u2R (i := 1) (x := (some 59)) (show 57 < 68 by decide)
  have hz := hz.u2R (i := 2) (x := (some 60)) (show 57 < 68 by decide)
  have hz := hz.u2R (i := 3) (x := (some 61)) (show 57 < 68 by decide)
  show J G l yX11_init cX11_init 1 _ _ _ _ _ _ _ _
  refine jr_putr ff_X11_72 rfl rfl rfl (fun _ => rfl) (fun _ => rfl) dX11_init_132 ?_
  have hz := hz.u2R (i := 8) (x := some 57) (show 0 < 68 by decide)
  refine jr_aload_n dX11_init_135 rfl rfl ?_
  refine jk_new (mc := 2) (ms := 74) (n := 68) ks_68 wc_X0 (by decide) cl_X11_76 in_X0 wi_X0 rfl (by decide) (df_X0 ((hz).1 68 (by decide)) ((hz).2.1 68 (by decide)) ((hz).2.2 68 (by decide))) dX11_init_136 ?_
  have hz := hz.mono (show 68 ≤ 69 by decide)
  refine jr_dup dX11_init_139 rfl ?_
  refine jr_callI (mc2 := 2) (ms2 := 74) (mc := 0) (ms := 0) im_X11_78 (r := 68) (av := []) (st := [.ref 68, .ref 0]) rfl rfl (Nat.le_of_ble_eq_true rfl) dX11_init_140 (k_X0_68 (d := d) (hz) ?_)
  have hz := hz.mono (show 69 ≤ 71 by decide)
  have hz := hz.u2 (i := 2) (x := (0 : Int32)) (show 68 < 71 by decide)
  have hz := hz.u2 (i := 3) (x := (0 : Int32)) (show 68 < 71 by decide)
  have hz := hz.u2 (i := 4) (x := (0 : Int32)) (show 68 < 71 by decide)
  have hz := hz.u2R (i := 0) (x := (some 69)) (show 68 < 71 by decide)
  have hz := hz.u2R (i := 1) (x := (some 70)) (show 68 < 71 by decide)
  show J G l yX11_init cX11_init 1 _ _ _ _ _ _ _ _
  refine jr_putr ff_X11_79 rfl rfl rfl (fun _ => rfl) (fun _ => rfl) dX11_init_143 ?_
  have hz := hz.u2R (i := 9) (x := some 68) (show 0 < 71 by decide)
  exact jr_return dX11_init_146 ⟨Or.inl ⟨rfl, rfl⟩, h⟩
set_option maxRecDepth 100000 in
set_option maxHeartbeats 4000000 in
theorem k_X12_71 {G : jG} {l : Launch} {d : Nat} {I : jS} {L : jL} {R : jR} {Q : Option Value → jW → Prop} (hz : jZ 72 I L R) (h : Q none (jKS.take 93, (u2 (u2 (u2 (u2 (u2 (u2 (u2 (u2 (u2 (u2 (u2 (u2 (u2 (u2 (u2 (u2 (u2 (u2 (u2 (u2 (u2 (u2 (u2 (u2 (u2 (u2 (u2 (u2 (u2 (u2 (u2 (u2 (u2 (u2 (u2 (u2 (u2 (u2 (u2 (u2 (u2 (u2 (u2 (u2 (u2 (u2 (u2 (u2 (u2 (u2 (u2 (u2 (u2 (u2 (u2 (u2 (u2 (u2 (u2 (u2 (u2 (u2 (u2 (u2 (u2 (u2 (u2 (u2 (u2 (u2 (u2 (u2 (u2 (u2 (u2 (u2 (u2 (u2 (u2 (u2 (u2 (u2 I 71 23 (-1 : Int32)) 89 0 (-1 : Int32)) 89 1 (-1 : Int32)) 89 2 (-1 : Int32)) 89 3 (-1 : Int32)) 89 4 (-1 : Int32)) 89 5 (-1 : Int32)) 71 12 (-1 : Int32)) 72 0 (30 : Int32)) 72 24 (1 : Int32)) 72 72 (10 : Int32)) 72 1 (30 : Int32)) 72 25 (1 : Int32)) 72 73 (10 : Int32)) 72 2 (30 : Int32)) 72 26 (1 : Int32)) 72 74 (10 : Int32)) 72 3 (30 : Int32)) 72 27 (1 : Int32)) 72 75 (10 : Int32)) 72 4 (30 : Int32)) 72 28 (1 : Int32)) 72 76 (10 : Int32)) 72 5 (30 : Int32)) 72 29 (1 : Int32)) 72 77 (10 : Int32)) 72 6 (30 : Int32)) 72 30 (1 : Int32)) 72 78 (10 : Int32)) 72 7 (30 : Int32)) 72 31 (1 : Int32)) 72 79 (10 : Int32)) 72 8 (30 : Int32)) 72 32 (1 : Int32)) 72 80 (10 : Int32)) 72 9 (30 : Int32)) 72 33 (1 : Int32)) 72 81 (10 : Int32)) 72 10 (30 : Int32)) 72 34 (1 : Int32)) 72 82 (10 : Int32)) 72 11 (30 : Int32)) 72 35 (1 : Int32)) 72 83 (10 : Int32)) 72 12 (30 : Int32)) 72 36 (1 : Int32)) 72 84 (10 : Int32)) 72 13 (30 : Int32)) 72 37 (1 : Int32)) 72 85 (10 : Int32)) 72 14 (30 : Int32)) 72 38 (1 : Int32)) 72 86 (10 : Int32)) 72 15 (30 : Int32)) 72 39 (1 : Int32)) 72 87 (10 : Int32)) 72 16 (30 : Int32)) 72 40 (1 : Int32)) 72 88 (10 : Int32)) 72 17 (30 : Int32)) 72 41 (1 : Int32)) 72 89 (10 : Int32)) 72 18 (30 : Int32)) 72 42 (1 : Int32)) 72 90 (10 : Int32)) 72 19 (30 : Int32)) 72 43 (1 : Int32)) 72 91 (10 : Int32)) 72 20 (30 : Int32)) 72 44 (1 : Int32)) 72 92 (10 : Int32)) 72 21 (30 : Int32)) 72 45 (1 : Int32)) 72 93 (10 : Int32)) 72 22 (30 : Int32)) 72 46 (1 : Int32)) 72 94 (10 : Int32)) 72 23 (30 : Int32)) 72 47 (1 : Int32)) 72 95 (10 : Int32)) 72 124 (999 : Int32)) 71 40 (-2 : Int32)), L, (u2R (u2R (u2R (u2R (u2R (u2R (u2R (u2R (u2R (u2R (u2R (u2R (u2R (u2R (u2R (u2R (u2R (u2R (u2R (u2R (u2R R 71 0 (some 72)) 71 1 (some 73)) 71 2 (some 74)) 71 3 (some 75)) 71 7 (some 76)) 71 9 (some 77)) 71 11 (some 78)) 71 18 (some 79)) 71 19 (some 80)) 71 26 (some 81)) 71 27 (some 82)) 71 29 (some 83)) 71 33 (some 84)) 71 35 (some 85)) 71 42 (some 86)) 71 44 (some 87)) 71 45 (some 88)) 71 49 (some 89)) 71 50 (some 90)) 71 51 (some 91)) 71 52 (some 92)))) : jCall G l yX12_init cX12_init 2 none (d + 1) 21 1373 [.ref 71] (jKS.take 72, I, L, R) Q := by
  refine jCall_of (n0 := 1) (ls := [some (.ref 71), none]) (by decide +kernel) rfl (Nat.le_of_ble_eq_true rfl) ?_
  have hz0 := hz
  refine jr_aload_n dX12_init_0 rfl rfl ?_
  refine jr_objinit oi_X12_5 wo_m wo_c (Nat.le_of_ble_eq_true rfl) dX12_init_1 ?_
  refine jr_aload_n dX12_init_4 rfl rfl ?_
  refine jr_bipush dX12_init_5 kbp_125 ?_
  refine jk_newarr_i (mc := 20) (ms := 1248) ks_72 (by decide) nn_125 (by decide) rfl (by decide) ((hz).1 72 (by decide)) dX12_init_7 ?_
  have hz := hz.mono (show 72 ≤ 73 by decide)
  refine jr_putr ff_X12_11 rfl rfl rfl (fun _ => rfl) (fun _ => rfl) dX12_init_9 ?_
  have hz := hz.u2R (i := 0) (x := some 72) (show 71 < 73 by decide)
  refine jr_aload_n dX12_init_12 rfl rfl ?_
  refine jr_bipush dX12_init_13 kbp_40 ?_
  refine jk_newarr_i (mc := 19) (ms := 1208) ks_73 (by decide) nn_40 (by decide) rfl (by decide) ((hz).1 73 (by decide)) dX12_init_15 ?_
  have hz := hz.mono (show 73 ≤ 74 by decide)
  refine jr_putr ff_X12_15 rfl rfl rfl (fun _ => rfl) (fun _ => rfl) dX12_init_17 ?_
  have hz := hz.u2R (i := 1) (x := some 73) (show 71 < 74 by decide)
  refine jr_aload_n dX12_init_20 rfl rfl ?_
  refine jr_bipush dX12_init_21 kbp_40 ?_
  refine jk_newarr_i (mc := 18) (ms := 1168) ks_74 (by decide) nn_40 (by decide) rfl (by decide) ((hz).1 74 (by decide)) dX12_init_23 ?_
  have hz := hz.mono (show 74 ≤ 75 by decide)
  refine jr_putr ff_X12_18 rfl rfl rfl (fun _ => rfl) (fun _ => rfl) dX12_init_25 ?_
  have hz := hz.u2R (i := 2) (x := some 74) (show 71 < 75 by decide)
  refine jr_aload_n dX12_init_28 rfl rfl ?_
  refine jr_bipush dX12_init_29 kbp_40 ?_
  refine jk_newarr_i (mc := 17) (ms := 1128) ks_75 (by decide) nn_40 (by decide) rfl (by decide) ((hz).1 75 (by decide)) dX12_init_31 ?_
  have hz := hz.mono (show 75 ≤ 76 by decide)
  refine jr_putr ff_X12_21 rfl rfl rfl (fun _ => rfl) (fun _ => rfl) dX12_init_33 ?_
  have hz := hz.u2R (i := 3) (x := some 75) (show 71 < 76 by decide)
  refine jr_aload_n dX12_init_36 rfl rfl ?_
  refine jr_bipush dX12_init_37 kbp_24 ?_
  refine jk_newarr_i (mc := 16) (ms := 1104) ks_76 (by decide) nn_24 (by decide) rfl (by decide) ((hz).1 76 (by decide)) dX12_init_39 ?_
  have hz := hz.mono (show 76 ≤ 77 by decide)
  refine jr_putr ff_X12_24 rfl rfl rfl (fun _ => rfl) (fun _ => rfl) dX12_init_41 ?_
  have hz := hz.u2R (i := 7) (x := some 76) (show 71 < 77 by decide)
  refine jr_aload_n dX12_init_44 rfl rfl ?_
  refine jr_bipush dX12_init_45 kbp_120 ?_
  refine jk_newarr_i (mc := 15) (ms := 984) ks_77 (by decide) nn_120 (by decide) rfl (by decide) ((hz).1 77 (by decide)) dX12_init_47 ?_
  have hz := hz.mono (show 77 ≤ 78 by decide)
  refine jr_putr ff_X12_27 rfl rfl rfl (fun _ => rfl) (fun _ => rfl) dX12_init_49 ?_
  have hz := hz.u2R (i := 9) (x := some 77) (show 71 < 78 by decide)
  refine jr_aload_n dX12_init_52 rfl rfl ?_
  refine jr_bipush dX12_init_53 kbp_120 ?_
  refine jk_newarr_i (mc := 14) (ms := 864) ks_78 (by decide) nn_120 (by decide) rfl (by decide) ((hz).1 78 (by decide)) dX12_init_55 ?_
  have hz := hz.mono (show 78 ≤ 79 by decide)
  refine jr_putr ff_X12_30 rfl rfl rfl (fun _ => rfl) (fun _ => rfl) dX12_init_57 ?_
  have hz := hz.u2R (i := 11) (x := some 78) (show 71 < 79 by decide)
  refine jr_aload_n dX12_init_60 rfl rfl ?_
  refine jr_bipush dX12_init_61 kbp_6 ?_
  refine jk_newarr_i (mc := 13) (ms := 858) ks_79 (by decide) nn_6 (by decide) rfl (by decide) ((hz).1 79 (by decide)) dX12_init_63 ?_
  have hz := hz.mono (show 79 ≤ 80 by decide)
  refine jr_putr ff_X12_33 rfl rfl rfl (fun _ => rfl) (fun _ => rfl) dX12_init_65 ?_
  have hz := hz.u2R (i := 18) (x := some 79) (show 71 < 80 by decide)
  refine jr_aload_n dX12_init_68 rfl rfl ?_
  refine jr_bipush dX12_init_69 kbp_24 ?_
  refine jk_newarr_i (mc := 12) (ms := 834) ks_80 (by decide) nn_24 (by decide) rfl (by decide) ((hz).1 80 (by decide)) dX12_init_71 ?_
  have hz := hz.mono (show 80 ≤ 81 by decide)
  refine jr_putr ff_X12_36 rfl rfl rfl (fun _ => rfl) (fun _ => rfl) dX12_init_73 ?_
  have hz := hz.u2R (i := 19) (x := some 80) (show 71 < 81 by decide)
  refine jr_aload_n dX12_init_76 rfl rfl ?_
  refine jr_iconst dX12_init_77 kic_m1 ?_
  refine jr_puti ff_X12_39 rfl dX12_init_78 ?_
  have hz := hz.u2 (i := 23) (x := (-1 : Int32)) (show 71 < 81 by decide)
  refine jr_aload_n dX12_init_81 rfl rfl ?_
  refine jr_bipush dX12_init_82 kbp_7 ?_
  refine jk_newarr_i (mc := 11) (ms := 827) ks_81 (by decide) nn_7 (by decide) rfl (by decide) ((hz).1 81 (by decide)) dX12_init_84 ?_
  have hz := hz.mono (show 81 ≤ 82 by decide)
  refine jr_putr ff_X12_43 rfl rfl rfl (fun _ => rfl) (fun _ => rfl) dX12_init_86 ?_
  have hz := hz.u2R (i := 26) (x := some 81) (show 71 < 82 by decide)
  refine jr_aload_n dX12_init_89 rfl rfl ?_
  refine jr_bipush dX12_init_90 kbp_7 ?_
  refine jk_newarr_i (mc := 10) (ms := 820) ks_82 (by decide) nn_7 (by decide) rfl (by decide) ((hz).1 82 (by decide)) dX12_init_92 ?_
  have hz := hz.mono (show 82 ≤ 83 by decide)
  refine jr_putr ff_X12_46 rfl rfl rfl (fun _ => rfl) (fun _ => rfl) dX12_init_94 ?_
  have hz := hz.u2R (i := 27) (x := some 82) (show 71 < 83 by decide)
  refine jr_aload_n dX12_init_97 rfl rfl ?_
  refine jr_bipush dX12_init_98 kbp_24 ?_
  refine jk_newarr_i (mc := 9) (ms := 796) ks_83 (by decide) nn_24 (by decide) rfl (by decide) ((hz).1 83 (by decide)) dX12_init_100 ?_
  have hz := hz.mono (show 83 ≤ 84 by decide)
  refine jr_putr ff_X12_49 rfl rfl rfl (fun _ => rfl) (fun _ => rfl) dX12_init_102 ?_
  have hz := hz.u2R (i := 29) (x := some 83) (show 71 < 84 by decide)
  refine jr_aload_n dX12_init_105 rfl rfl ?_
  refine jr_iconst dX12_init_106 kic_4 ?_
  refine jk_newarr_i (mc := 8) (ms := 792) ks_84 (by decide) nn_4 (by decide) rfl (by decide) ((hz).1 84 (by decide)) dX12_init_107 ?_
  have hz := hz.mono (show 84 ≤ 85 by decide)
  refine jr_putr ff_X12_52 rfl rfl rfl (fun _ => rfl) (fun _ => rfl) dX12_init_109 ?_
  have hz := hz.u2R (i := 33) (x := some 84) (show 71 < 85 by decide)
  refine jr_aload_n dX12_init_112 rfl rfl ?_
  refine jr_sipush dX12_init_113 ksp_256 ?_
  refine jk_newarr_z (mc := 7) (ms := 536) ks_85 (by decide) nn_256 (by decide) rfl (by decide) ((hz).1 85 (by decide)) dX12_init_116 ?_
  have hz := hz.mono (show 85 ≤ 86 by decide)
  refine jr_putr ff_X12_55 rfl rfl rfl (fun _ => rfl) (fun _ => rfl) dX12_init_118 ?_
  have hz := hz.u2R (i := 35) (x := some 85) (show 71 < 86 by decide)
  refine jr_aload_n dX12_init_121 rfl rfl ?_
  refine jr_bipush dX12_init_122 kbp_30 ?_
  refine jk_newarr_i (mc := 6) (ms := 506) ks_86 (by decide) nn_30 (by decide) rfl (by decide) ((hz).1 86 (by decide)) dX12_init_124 ?_
  have hz := hz.mono (show 86 ≤ 87 by decide)
  refine jr_putr ff_X12_59 rfl rfl rfl (fun _ => rfl) (fun _ => rfl) dX12_init_126 ?_
  have hz := hz.u2R (i := 42) (x := some 86) (show 71 < 87 by decide)
  refine jr_aload_n dX12_init_129 rfl rfl ?_
  refine jr_bipush dX12_init_130 kbp_50 ?_
  refine jk_newarr_i (mc := 5) (ms := 456) ks_87 (by decide) nn_50 (by decide) rfl (by decide) ((hz).1 87 (by decide)) dX12_init_132 ?_
  have hz := hz.mono (show 87 ≤ 88 by decide)
  refine jr_putr ff_X12_62 rfl rfl rfl (fun _ => rfl) (fun _ => rfl) dX12_init_134 ?_
  have hz := hz.u2R (i := 44) (x := some 87) (show 71 < 88 by decide)
  refine jr_aload_n dX12_init_137 rfl rfl ?_
  refine jr_bipush dX12_init_138 kbp_24 ?_
  refine jk_newarr_i (mc := 4) (ms := 432) ks_88 (by decide) nn_24 (by decide) rfl (by decide) ((hz).1 88 (by decide)) dX12_init_140 ?_
  have hz := hz.mono (show 88 ≤ 89 by decide)
  refine jr_putr ff_X12_65 rfl rfl rfl (fun _ => rfl) (fun _ => rfl) dX12_init_142 ?_
  have hz := hz.u2R (i := 45) (x := some 88) (show 71 < 89 by decide)
  refine jr_aload_n dX12_init_145 rfl rfl ?_
  refine jr_bipush dX12_init_146 kbp_6 ?_
  refine jk_newarr_i (mc := 3) (ms := 426) ks_89 (by decide) nn_6 (by decide) rfl (by decide) ((hz).1 89 (by decide)) dX12_init_148 ?_
  have hz := hz.mono (show 89 ≤ 90 by decide)
  refine jr_putr ff_X12_68 rfl rfl rfl (fun _ => rfl) (fun _ => rfl) dX12_init_150 ?_
  have hz := hz.u2R (i := 49) (x := some 89) (show 71 < 90 by decide)
  refine jr_aload_n dX12_init_153 rfl rfl ?_
  refine jr_bipush dX12_init_154 kbp_6 ?_
  refine jk_newarr_i (mc := 2) (ms := 420) ks_90 (by decide) nn_6 (by decide) rfl (by decide) ((hz).1 90 (by decide)) dX12_init_156 ?_
  have hz := hz.mono (show 90 ≤ 91 by decide)
  refine jr_putr ff_X12_71 rfl rfl rfl (fun _ => rfl) (fun _ => rfl) dX12_init_158 ?_
  have hz := hz.u2R (i := 50) (x := some 90) (show 71 < 91 by decide)
  refine jr_aload_n dX12_init_161 rfl rfl ?_
  refine jr_sipush dX12_init_162 ksp_360 ?_
  refine jk_newarr_l (mc := 1) (ms := 60) ks_91 (by decide) nn_360 (by decide) rfl (by decide) ((hz).2.1 91 (by decide)) dX12_init_165 ?_
  have hz := hz.mono (show 91 ≤ 92 by decide)
  refine jr_putr ff_X12_74 rfl rfl rfl (fun _ => rfl) (fun _ => rfl) dX12_init_167 ?_
  have hz := hz.u2R (i := 51) (x := some 91) (show 71 < 92 by decide)
  refine jr_aload_n dX12_init_170 rfl rfl ?_
  refine jr_bipush dX12_init_171 kbp_60 ?_
  refine jk_newarr_l (mc := 0) (ms := 0) ks_92 (by decide) nn_60 (by decide) rfl (by decide) ((hz).2.1 92 (by decide)) dX12_init_173 ?_
  have hz := hz.mono (show 92 ≤ 93 by decide)
  refine jr_putr ff_X12_78 rfl rfl rfl (fun _ => rfl) (fun _ => rfl) dX12_init_175 ?_
  have hz := hz.u2R (i := 52) (x := some 92) (show 71 < 93 by decide)
  refine jr_iconst dX12_init_178 kic_0 ?_
  refine jr_istore_n dX12_init_179 rfl (by decide) rfl ?_
  refine jr_iload_n dX12_init_180 rfl rfl ?_
  refine jr_bipush dX12_init_181 kbp_6 ?_
  refine jr_icmp_ge dX12_init_183 (tgt := 199) (by decide) (fun c => absurd c (by decide)) (fun _ => ?_)
  refine jr_aload_n dX12_init_186 rfl rfl ?_
  refine jr_geta ff_X12_68 rfl ((u2Ri (by decide)).trans ((u2Ri (by decide)).trans ((u2Ri (by decide)).trans u2Re))) dX12_init_187 ?_
  refine jr_iload_n dX12_init_190 rfl rfl ?_
  refine jr_iconst dX12_init_191 kic_m1 ?_
  refine jr_iastore nn_0 rfl dX12_init_192 vin_0_6 ?_
  have hz := hz.u2 (i := 0) (x := (-1 : Int32)) (show 89 < 93 by decide)
  refine jr_iinc (v := (1 : Int32)) dX12_init_193 rfl (by decide) (by decide) rfl ?_
  refine jr_goto dX12_init_196 (tgt := 180) (by decide) ?_
  refine jr_iload_n dX12_init_180 rfl rfl ?_
  refine jr_bipush dX12_init_181 kbp_6 ?_
  refine jr_icmp_ge dX12_init_183 (tgt := 199) (by decide) (fun c => absurd c (by decide)) (fun _ => ?_)
  refine jr_aload_n dX12_init_186 rfl rfl ?_
  refine jr_geta ff_X12_68 rfl ((u2Ri (by decide)).trans ((u2Ri (by decide)).trans ((u2Ri (by decide)).trans u2Re))) dX12_init_187 ?_
  refine jr_iload_n dX12_init_190 rfl rfl ?_
  refine jr_iconst dX12_init_191 kic_m1 ?_
  refine jr_iastore nn_1 rfl dX12_init_192 vin_1_6 ?_
  have hz := hz.u2 (i := 1) (x := (-1 : Int32)) (show 89 < 93 by decide)
  refine jr_iinc (v := (2 : Int32)) dX12_init_193 rfl (by decide) (by decide) rfl ?_
  refine jr_goto dX12_init_196 (tgt := 180) (by decide) ?_
  refine jr_iload_n dX12_init_180 rfl rfl ?_
  refine jr_bipush dX12_init_181 kbp_6 ?_
  refine jr_icmp_ge dX12_init_183 (tgt := 199) (by decide) (fun c => absurd c (by decide)) (fun _ => ?_)
  refine jr_aload_n dX12_init_186 rfl rfl ?_
  refine jr_geta ff_X12_68 rfl ((u2Ri (by decide)).trans ((u2Ri (by decide)).trans ((u2Ri (by decide)).trans u2Re))) dX12_init_187 ?_
  refine jr_iload_n dX12_init_190 rfl rfl ?_
  refine jr_iconst dX12_init_191 kic_m1 ?_
  refine jr_iastore nn_2 rfl dX12_init_192 vin_2_6 ?_
  have hz := hz.u2 (i := 2) (x := (-1 : Int32)) (show 89 < 93 by decide)
  refine jr_iinc (v := (3 : Int32)) dX12_init_193 rfl (by decide) (by decide) rfl ?_
  refine jr_goto dX12_init_196 (tgt := 180) (by decide) ?_
  refine jr_iload_n dX12_init_180 rfl rfl ?_
  refine jr_bipush dX12_init_181 kbp_6 ?_
  refine jr_icmp_ge dX12_init_183 (tgt := 199) (by decide) (fun c => absurd c (by decide)) (fun _ => ?_)
  refine jr_aload_n dX12_init_186 rfl rfl ?_
  refine jr_geta ff_X12_68 rfl ((u2Ri (by decide)).trans ((u2Ri (by decide)).trans ((u2Ri (by decide)).trans u2Re))) dX12_init_187 ?_
  refine jr_iload_n dX12_init_190 rfl rfl ?_
  refine jr_iconst dX12_init_191 kic_m1 ?_
  refine jr_iastore nn_3 rfl dX12_init_192 vin_3_6 ?_
  have hz := hz.u2 (i := 3) (x := (-1 : Int32)) (show 89 < 93 by decide)
  refine jr_iinc (v := (4 : Int32)) dX12_init_193 rfl (by decide) (by decide) rfl ?_
  refine jr_goto dX12_init_196 (tgt := 180) (by decide) ?_
  refine jr_iload_n dX12_init_180 rfl rfl ?_
  refine jr_bipush dX12_init_181 kbp_6 ?_
  refine jr_icmp_ge dX12_init_183 (tgt := 199) (by decide) (fun c => absurd c (by decide)) (fun _ => ?_)
  refine jr_aload_n dX12_init_186 rfl rfl ?_
  refine jr_geta ff_X12_68 rfl ((u2Ri (by decide)).trans ((u2Ri (by decide)).trans ((u2Ri (by decide)).trans u2Re))) dX12_init_187 ?_
  refine jr_iload_n dX12_init_190 rfl rfl ?_
  refine jr_iconst dX12_init_191 kic_m1 ?_
  refine jr_iastore nn_4 rfl dX12_init_192 vin_4_6 ?_
  have hz := hz.u2 (i := 4) (x := (-1 : Int32)) (show 89 < 93 by decide)
  refine jr_iinc (v := (5 : Int32)) dX12_init_193 rfl (by decide) (by decide) rfl ?_
  refine jr_goto dX12_init_196 (tgt := 180) (by decide) ?_
  refine jr_iload_n dX12_init_180 rfl rfl ?_
  refine jr_bipush dX12_init_181 kbp_6 ?_
  refine jr_icmp_ge dX12_init_183 (tgt := 199) (by decide) (fun c => absurd c (by decide)) (fun _ => ?_)
  refine jr_aload_n dX12_init_186 rfl rfl ?_
  refine jr_geta ff_X12_68 rfl ((u2Ri (by decide)).trans ((u2Ri (by decide)).trans ((u2Ri (by decide)).trans u2Re))) dX12_init_187 ?_
  refine jr_iload_n dX12_init_190 rfl rfl ?_
  refine jr_iconst dX12_init_191 kic_m1 ?_
  refine jr_iastore nn_5 rfl dX12_init_192 vin_5_6 ?_
  have hz := hz.u2 (i := 5) (x := (-1 : Int32)) (show 89 < 93 by decide)
  refine jr_iinc (v := (6 : Int32)) dX12_init_193 rfl (by decide) (by decide) rfl ?_
  refine jr_goto dX12_init_196 (tgt := 180) (by decide) ?_
  refine jr_iload_n dX12_init_180 rfl rfl ?_
  refine jr_bipush dX12_init_181 kbp_6 ?_
  refine jr_icmp_ge dX12_init_183 (tgt := 199) (by decide) (fun _ => ?_) (fun c => absurd (by decide) c)
  refine jr_aload_n dX12_init_199 rfl rfl ?_
  refine jr_iconst dX12_init_200 kic_m1 ?_
  refine jr_puti ff_X12_81 rfl dX12_init_201 ?_
  have hz := hz.u2 (i := 12) (x := (-1 : Int32)) (show 71 < 93 by decide)
  refine jr_iconst dX12_init_204 kic_0 ?_
  refine jr_istore_n dX12_init_205 rfl (by decide) rfl ?_
  refine jr_iload_n dX12_init_206 rfl rfl ?_
  refine jr_bipush dX12_init_207 kbp_24 ?_
  refine jr_icmp_ge dX12_init_209 (tgt := 247) (by decide) (fun c => absurd c (by decide)) (fun _ => ?_)
  refine jr_aload_n dX12_init_212 rfl rfl ?_
  refine jr_geta ff_X12_11 rfl ((u2Ri (by decide)).trans ((u2Ri (by decide)).trans ((u2Ri (by decide)).trans ((u2Ri (by decide)).trans ((u2Ri (by decide)).trans ((u2Ri (by decide)).trans ((u2Ri (by decide)).trans ((u2Ri (by decide)).trans ((u2Ri (by decide)).trans ((u2Ri (by decide)).trans ((u2Ri (by decide)).trans ((u2Ri (by decide)).trans ((u2Ri (by decide)).trans ((u2Ri (by decide)).trans ((u2Ri (by decide)).trans ((u2Ri (by decide)).trans ((u2Ri (by decide)).trans ((u2Ri (by decide)).trans ((u2Ri (by decide)).trans ((u2Ri (by decide)).trans u2Re)))))))))))))))))))) dX12_init_213 ?_
  refine jr_iload_n dX12_init_216 rfl rfl ?_
  refine jr_bipush dX12_init_217 kbp_30 ?_
  refine jr_iastore nn_0 rfl dX12_init_219 vin_0_125 ?_
  have hz := hz.u2 (i := 0) (x := (30 : Int32)) (show 72 < 93 by decide)
  refine jr_aload_n dX12_init_220 rfl rfl ?_
  refine jr_geta ff_X12_11 rfl ((u2Ri (by decide)).trans ((u2Ri (by decide)).trans ((u2Ri (by decide)).trans ((u2Ri (by decide)).trans ((u2Ri (by decide)).trans ((u2Ri (by decide)).trans ((u2Ri (by decide)).trans ((u2Ri (by decide)).trans ((u2Ri (by decide)).trans ((u2Ri (by decide)).trans ((u2Ri (by decide)).trans ((u2Ri (by decide)).trans ((u2Ri (by decide)).trans ((u2Ri (by decide)).trans ((u2Ri (by decide)).trans ((u2Ri (by decide)).trans ((u2Ri (by decide)).trans ((u2Ri (by decide)).trans ((u2Ri (by decide)).trans ((u2Ri (by decide)).trans u2Re)))))))))))))))))))) dX12_init_221 ?_
  refine jr_bipush dX12_init_224 kbp_24 ?_
  refine jr_iload_n dX12_init_226 rfl rfl ?_
  refine jr_iadd dX12_init_227 ?_
  rw [show (24 : Int32) + (0 : Int32) = (24 : Int32) by decide]
  refine jr_iconst dX12_init_228 kic_1 ?_
  refine jr_iastore nn_24 rfl dX12_init_229 vin_24_125 ?_
  have hz := hz.u2 (i := 24) (x := (1 : Int32)) (show 72 < 93 by decide)
  refine jr_aload_n dX12_init_230 rfl rfl ?_
  refine jr_geta ff_X12_11 rfl ((u2Ri (by decide)).trans ((u2Ri (by decide)).trans ((u2Ri (by decide)).trans ((u2Ri (by decide)).trans ((u2Ri (by decide)).trans ((u2Ri (by decide)).trans ((u2Ri (by decide)).trans ((u2Ri (by decide)).trans ((u2Ri (by decide)).trans ((u2Ri (by decide)).trans ((u2Ri (by decide)).trans ((u2Ri (by decide)).trans ((u2Ri (by decide)).trans ((u2Ri (by decide)).trans ((u2Ri (by decide)).trans ((u2Ri (by decide)).trans ((u2Ri (by decide)).trans ((u2Ri (by decide)).trans ((u2Ri (by decide)).trans ((u2Ri (by decide)).trans u2Re)))))))))))))))))))) dX12_init_231 ?_
  refine jr_bipush dX12_init_234 kbp_72 ?_
  refine jr_iload_n dX12_init_236 rfl rfl ?_
  refine jr_iadd dX12_init_237 ?_
  rw [show (72 : Int32) + (0 : Int32) = (72 : Int32) by decide]
  refine jr_bipush dX12_init_238 kbp_10 ?_
  refine jr_iastore nn_72 rfl dX12_init_240 vin_72_125 ?_
  have hz := hz.u2 (i := 72) (x := (10 : Int32)) (show 72 < 93 by decide)
  refine jr_iinc (v := (1 : Int32)) dX12_init_241 rfl (by decide) (by decide) rfl ?_
  refine jr_goto dX12_init_244 (tgt := 206) (by decide) ?_
  refine jr_iload_n dX12_init_206 rfl rfl ?_
  refine jr_bipush dX12_init_207 kbp_24 ?_
  refine jr_icmp_ge dX12_init_209 (tgt := 247) (by decide) (fun c => absurd c (by decide)) (fun _ => ?_)
  refine jr_aload_n dX12_init_212 rfl rfl ?_
  refine jr_geta ff_X12_11 rfl ((u2Ri (by decide)).trans ((u2Ri (by decide)).trans ((u2Ri (by decide)).trans ((u2Ri (by decide)).trans ((u2Ri (by decide)).trans ((u2Ri (by decide)).trans ((u2Ri (by decide)).trans ((u2Ri (by decide)).trans ((u2Ri (by decide)).trans ((u2Ri (by decide)).trans ((u2Ri (by decide)).trans ((u2Ri (by decide)).trans ((u2Ri (by decide)).trans ((u2Ri (by decide)).trans ((u2Ri (by decide)).trans ((u2Ri (by decide)).trans ((u2Ri (by decide)).trans ((u2Ri (by decide)).trans ((u2Ri (by decide)).trans ((u2Ri (by decide)).trans u2Re)))))))))))))))))))) dX12_init_213 ?_
  refine jr_iload_n dX12_init_216 rfl rfl ?_
  refine jr_bipush dX12_init_217 kbp_30 ?_
  refine jr_iastore nn_1 rfl dX12_init_219 vin_1_125 ?_
  have hz := hz.u2 (i := 1) (x := (30 : Int32)) (show 72 < 93 by decide)
  refine jr_aload_n dX12_init_220 rfl rfl ?_
  refine jr_geta ff_X12_11 rfl ((u2Ri (by decide)).trans ((u2Ri (by decide)).trans ((u2Ri (by decide)).trans ((u2Ri (by decide)).trans ((u2Ri (by decide)).trans ((u2Ri (by decide)).trans ((u2Ri (by decide)).trans ((u2Ri (by decide)).trans ((u2Ri (by decide)).trans ((u2Ri (by decide)).trans ((u2Ri (by decide)).trans ((u2Ri (by decide)).trans ((u2Ri (by decide)).trans ((u2Ri (by decide)).trans ((u2Ri (by decide)).trans ((u2Ri (by decide)).trans ((u2Ri (by decide)).trans ((u2Ri (by decide)).trans ((u2Ri (by decide)).trans ((u2Ri (by decide)).trans u2Re)))))))))))))))))))) dX12_init_221 ?_
  refine jr_bipush dX12_init_224 kbp_24 ?_
  refine jr_iload_n dX12_init_226 rfl rfl ?_
  refine jr_iadd dX12_init_227 ?_
  rw [show (24 : Int32) + (1 : Int32) = (25 : Int32) by decide]
  refine jr_iconst dX12_init_228 kic_1 ?_
  refine jr_iastore nn_25 rfl dX12_init_229 vin_25_125 ?_
  have hz := hz.u2 (i := 25) (x := (1 : Int32)) (show 72 < 93 by decide)
  refine jr_aload_n dX12_init_230 rfl rfl ?_
  refine jr_geta ff_X12_11 rfl ((u2Ri (by decide)).trans ((u2Ri (by decide)).trans ((u2Ri (by decide)).trans ((u2Ri (by decide)).trans ((u2Ri (by decide)).trans ((u2Ri (by decide)).trans ((u2Ri (by decide)).trans ((u2Ri (by decide)).trans ((u2Ri (by decide)).trans ((u2Ri (by decide)).trans ((u2Ri (by decide)).trans ((u2Ri (by decide)).trans ((u2Ri (by decide)).trans ((u2Ri (by decide)).trans ((u2Ri (by decide)).trans ((u2Ri (by decide)).trans ((u2Ri (by decide)).trans ((u2Ri (by decide)).trans ((u2Ri (by decide)).trans ((u2Ri (by decide)).trans u2Re)))))))))))))))))))) dX12_init_231 ?_
  refine jr_bipush dX12_init_234 kbp_72 ?_
  refine jr_iload_n dX12_init_236 rfl rfl ?_
  refine jr_iadd dX12_init_237 ?_
  rw [show (72 : Int32) + (1 : Int32) = (73 : Int32) by decide]
  refine jr_bipush dX12_init_238 kbp_10 ?_
  refine jr_iastore nn_73 rfl dX12_init_240 vin_73_125 ?_
  have hz := hz.u2 (i := 73) (x := (10 : Int32)) (show 72 < 93 by decide)
  refine jr_iinc (v := (2 : Int32)) dX12_init_241 rfl (by decide) (by decide) rfl ?_
  refine jr_goto dX12_init_244 (tgt := 206) (by decide) ?_
  refine jr_iload_n dX12_init_206 rfl rfl ?_
  refine jr_bipush dX12_init_207 kbp_24 ?_
  refine jr_icmp_ge dX12_init_209 (tgt := 247) (by decide) (fun c => absurd c (by decide)) (fun _ => ?_)
  refine jr_aload_n dX12_init_212 rfl rfl ?_
  refine jr_geta ff_X12_11 rfl ((u2Ri (by decide)).trans ((u2Ri (by decide)).trans ((u2Ri (by decide)).trans ((u2Ri (by decide)).trans ((u2Ri (by decide)).trans ((u2Ri (by decide)).trans ((u2Ri (by decide)).trans ((u2Ri (by decide)).trans ((u2Ri (by decide)).trans ((u2Ri (by decide)).trans ((u2Ri (by decide)).trans ((u2Ri (by decide)).trans ((u2Ri (by decide)).trans ((u2Ri (by decide)).trans ((u2Ri (by decide)).trans ((u2Ri (by decide)).trans ((u2Ri (by decide)).trans ((u2Ri (by decide)).trans ((u2Ri (by decide)).trans ((u2Ri (by decide)).trans u2Re)))))))))))))))))))) dX12_init_213 ?_
  refine jr_iload_n dX12_init_216 rfl rfl ?_
  refine jr_bipush dX12_init_217 kbp_30 ?_
  refine jr_iastore nn_2 rfl dX12_init_219 vin_2_125 ?_
  have hz := hz.u2 (i := 2) (x := (30 : Int32)) (show 72 < 93 by decide)
  refine jr_aload_n dX12_init_220 rfl rfl ?_
  refine jr_geta ff_X12_11 rfl ((u2Ri (by decide)).trans ((u2Ri (by decide)).trans ((u2Ri (by decide)).trans ((u2Ri (by decide)).trans ((u2Ri (by decide)).trans ((u2Ri (by decide)).trans ((u2Ri (by decide)).trans ((u2Ri (by decide)).trans ((u2Ri (by decide)).trans ((u2Ri (by decide)).trans ((u2Ri (by decide)).trans ((u2Ri (by decide)).trans ((u2Ri (by decide)).trans ((u2Ri (by decide)).trans ((u2Ri (by decide)).trans ((u2Ri (by decide)).trans ((u2Ri (by decide)).trans ((u2Ri (by decide)).trans ((u2Ri (by decide)).trans ((u2Ri (by decide)).trans u2Re)))))))))))))))))))) dX12_init_221 ?_
  refine jr_bipush dX12_init_224 kbp_24 ?_
  refine jr_iload_n dX12_init_226 rfl rfl ?_
  refine jr_iadd dX12_init_227 ?_
  rw [show (24 : Int32) + (2 : Int32) = (26 : Int32) by decide]
  refine jr_iconst dX12_init_228 kic_1 ?_
  refine jr_iastore nn_26 rfl dX12_init_229 vin_26_125 ?_
  have hz := hz.u2 (i := 26) (x := (1 : Int32)) (show 72 < 93 by decide)
  refine jr_aload_n dX12_init_230 rfl rfl ?_
  refine jr_geta ff_X12_11 rfl ((u2Ri (by decide)).trans ((u2Ri (by decide)).trans ((u2Ri (by decide)).trans ((u2Ri (by decide)).trans ((u2Ri (by decide)).trans ((u2Ri (by decide)).trans ((u2Ri (by decide)).trans ((u2Ri (by decide)).trans ((u2Ri (by decide)).trans ((u2Ri (by decide)).trans ((u2Ri (by decide)).trans ((u2Ri (by decide)).trans ((u2Ri (by decide)).trans ((u2Ri (by decide)).trans ((u2Ri (by decide)).trans ((u2Ri (by decide)).trans ((u2Ri (by decide)).trans ((u2Ri (by decide)).trans ((u2Ri (by decide)).trans ((u2Ri (by decide)).trans u2Re)))))))))))))))))))) dX12_init_231 ?_
  refine jr_bipush dX12_init_234 kbp_72 ?_
  refine jr_iload_n dX12_init_236 rfl rfl ?_
  refine jr_iadd dX12_init_237 ?_
  rw [show (72 : Int32) + (2 : Int32) = (74 : Int32) by decide]
  refine jr_bipush dX12_init_238 kbp_10 ?_
  refine jr_iastore nn_74 rfl dX12_init_240 vin_74_125 ?_
  have hz := hz.u2 (i := 74) (x := (10 : Int32)) (show 72 < 93 by decide)
  refine jr_iinc (v := (3 : Int32)) dX12_init_241 rfl (by decide) (by decide) rfl ?_
  refine jr_goto dX12_init_244 (tgt := 206) (by decide) ?_
  refine jr_iload_n dX12_init_206 rfl rfl ?_
  refine jr_bipush dX12_init_207 kbp_24 ?_
  refine jr_icmp_ge dX12_init_209 (tgt := 247) (by decide) (fun c => absurd c (by decide)) (fun _ => ?_)
  refine jr_aload_n dX12_init_212 rfl rfl ?_
  refine jr_geta ff_X12_11 rfl ((u2Ri (by decide)).trans ((u2Ri (by decide)).trans ((u2Ri (by decide)).trans ((u2Ri (by decide)).trans ((u2Ri (by decide)).trans ((u2Ri (by decide)).trans ((u2Ri (by decide)).trans ((u2Ri (by decide)).trans ((u2Ri (by decide)).trans ((u2Ri (by decide)).trans ((u2Ri (by decide)).trans ((u2Ri (by decide)).trans ((u2Ri (by decide)).trans ((u2Ri (by decide)).trans ((u2Ri (by decide)).trans ((u2Ri (by decide)).trans ((u2Ri (by decide)).trans ((u2Ri (by decide)).trans ((u2Ri (by decide)).trans ((u2Ri (by decide)).trans u2Re)))))))))))))))))))) dX12_init_213 ?_
  refine jr_iload_n dX12_init_216 rfl rfl ?_
  refine jr_bipush dX12_init_217 kbp_30 ?_
  refine jr_iastore nn_3 rfl dX12_init_219 vin_3_125 ?_
  have hz := hz.u2 (i := 3) (x := (30 : Int32)) (show 72 < 93 by decide)
  refine jr_aload_n dX12_init_220 rfl rfl ?_
  refine jr_geta ff_X12_11 rfl ((u2Ri (by decide)).trans ((u2Ri (by decide)).trans ((u2Ri (by decide)).trans ((u2Ri (by decide)).trans ((u2Ri (by decide)).trans ((u2Ri (by decide)).trans ((u2Ri (by decide)).trans ((u2Ri (by decide)).trans ((u2Ri (by decide)).trans ((u2Ri (by decide)).trans ((u2Ri (by decide)).trans ((u2Ri (by decide)).trans ((u2Ri (by decide)).trans ((u2Ri (by decide)).trans ((u2Ri (by decide)).trans ((u2Ri (by decide)).trans ((u2Ri (by decide)).trans ((u2Ri (by decide)).trans ((u2Ri (by decide)).trans ((u2Ri (by decide)).trans u2Re)))))))))))))))))))) dX12_init_221 ?_
  refine jr_bipush dX12_init_224 kbp_24 ?_
  refine jr_iload_n dX12_init_226 rfl rfl ?_
  refine jr_iadd dX12_init_227 ?_
  rw [show (24 : Int32) + (3 : Int32) = (27 : Int32) by decide]
  refine jr_iconst dX12_init_228 kic_1 ?_
  refine jr_iastore nn_27 rfl dX12_init_229 vin_27_125 ?_
  have hz := hz.u2 (i := 27) (x := (1 : Int32)) (show 72 < 93 by decide)
  refine jr_aload_n dX12_init_230 rfl rfl ?_
  refine jr_geta ff_X12_11 rfl ((u2Ri (by decide)).trans ((u2Ri (by decide)).trans ((u2Ri (by decide)).trans ((u2Ri (by decide)).trans ((u2Ri (by decide)).trans ((u2Ri (by decide)).trans ((u2Ri (by decide)).trans ((u2Ri (by decide)).trans ((u2Ri (by decide)).trans ((u2Ri (by decide)).trans ((u2Ri (by decide)).trans ((u2Ri (by decide)).trans ((u2Ri (by decide)).trans ((u2Ri (by decide)).trans ((u2Ri (by decide)).trans ((u2Ri (by decide)).trans ((u2Ri (by decide)).trans ((u2Ri (by decide)).trans ((u2Ri (by decide)).trans ((u2Ri (by decide)).trans u2Re)))))))))))))))))))) dX12_init_231 ?_
  refine jr_bipush dX12_init_234 kbp_72 ?_
  refine jr_iload_n dX12_init_236 rfl rfl ?_
  refine jr_iadd dX12_init_237 ?_
  rw [show (72 : Int32) + (3 : Int32) = (75 : Int32) by decide]
  refine jr_bipush dX12_init_238 kbp_10 ?_
  refine jr_iastore nn_75 rfl dX12_init_240 vin_75_125 ?_
  have hz := hz.u2 (i := 75) (x := (10 : Int32)) (show 72 < 93 by decide)
  refine jr_iinc (v := (4 : Int32)) dX12_init_241 rfl (by decide) (by decide) rfl ?_
  refine jr_goto dX12_init_244 (tgt := 206) (by decide) ?_
  refine jr_iload_n dX12_init_206 rfl rfl ?_
  refine jr_bipush dX12_init_207 kbp_24 ?_
  refine jr_icmp_ge dX12_init_209 (tgt := 247) (by decide) (fun c => absurd c (by decide)) (fun _ => ?_)
  refine jr_aload_n dX12_init_212 rfl rfl ?_
  refine jr_geta ff_X12_11 rfl ((u2Ri (by decide)).trans ((u2Ri (by decide)).trans ((u2Ri (by decide)).trans ((u2Ri (by decide)).trans ((u2Ri (by decide)).trans ((u2Ri (by decide)).trans ((u2Ri (by decide)).trans ((u2Ri (by decide)).trans ((u2Ri (by decide)).trans ((u2Ri (by decide)).trans ((u2Ri (by decide)).trans ((u2Ri (by decide)).trans ((u2Ri (by decide)).trans ((u2Ri (by decide)).trans ((u2Ri (by decide)).trans ((u2Ri (by decide)).trans ((u2Ri (by decide)).trans ((u2Ri (by decide)).trans ((u2Ri (by decide)).trans ((u2Ri (by decide)).trans u2Re)))))))))))))))))))) dX12_init_213 ?_
  refine jr_iload_n dX12_init_216 rfl rfl ?_
  refine jr_bipush dX12_init_217 kbp_30 ?_
  refine jr_iastore nn_4 rfl dX12_init_219 vin_4_125 ?_
  have hz := hz.u2 (i := 4) (x := (30 : Int32)) (show 72 < 93 by decide)
  refine jr_aload_n dX12_init_220 rfl rfl ?_
  refine jr_geta ff_X12_11 rfl ((u2Ri (by decide)).trans ((u2Ri (by decide)).trans ((u2Ri (by decide)).trans ((u2Ri (by decide)).trans ((u2Ri (by decide)).trans ((u2Ri (by decide)).trans ((u2Ri (by decide)).trans ((u2Ri (by decide)).trans ((u2Ri (by decide)).trans ((u2Ri (by decide)).trans ((u2Ri (by decide)).trans ((u2Ri (by decide)).trans ((u2Ri (by decide)).trans ((u2Ri (by decide)).trans ((u2Ri (by decide)).trans ((u2Ri (by decide)).trans ((u2Ri (by decide)).trans ((u2Ri (by decide)).trans ((u2Ri (by decide)).trans ((u2Ri (by decide)).trans u2Re)))))))))))))))))))) dX12_init_221 ?_
  refine jr_bipush dX12_init_224 kbp_24 ?_
  refine jr_iload_n dX12_init_226 rfl rfl ?_
  refine jr_iadd dX12_init_227 ?_
  rw [show (24 : Int32) + (4 : Int32) = (28 : Int32) by decide]
  refine jr_iconst dX12_init_228 kic_1 ?_
  refine jr_iastore nn_28 rfl dX12_init_229 vin_28_125 ?_
  have hz := hz.u2 (i := 28) (x := (1 : Int32)) (show 72 < 93 by decide)
  refine jr_aload_n dX12_init_230 rfl rfl ?_
  refine jr_geta ff_X12_11 rfl ((u2Ri (by decide)).trans ((u2Ri (by decide)).trans ((u2Ri (by decide)).trans ((u2Ri (by decide)).trans ((u2Ri (by decide)).trans ((u2Ri (by decide)).trans ((u2Ri (by decide)).trans ((u2Ri (by decide)).trans ((u2Ri (by decide)).trans ((u2Ri (by decide)).trans ((u2Ri (by decide)).trans ((u2Ri (by decide)).trans ((u2Ri (by decide)).trans ((u2Ri (by decide)).trans ((u2Ri (by decide)).trans ((u2Ri (by decide)).trans ((u2Ri (by decide)).trans ((u2Ri (by decide)).trans ((u2Ri (by decide)).trans ((u2Ri (by decide)).trans u2Re)))))))))))))))))))) dX12_init_231 ?_
  refine jr_bipush dX12_init_234 kbp_72 ?_
  refine jr_iload_n dX12_init_236 rfl rfl ?_
  refine jr_iadd dX12_init_237 ?_
  rw [show (72 : Int32) + (4 : Int32) = (76 : Int32) by decide]
  refine jr_bipush dX12_init_238 kbp_10 ?_
  refine jr_iastore nn_76 rfl dX12_init_240 vin_76_125 ?_
  have hz := hz.u2 (i := 76) (x := (10 : Int32)) (show 72 < 93 by decide)
  refine jr_iinc (v := (5 : Int32)) dX12_init_241 rfl (by decide) (by decide) rfl ?_
  refine jr_goto dX12_init_244 (tgt := 206) (by decide) ?_
  refine jr_iload_n dX12_init_206 rfl rfl ?_
  refine jr_bipush dX12_init_207 kbp_24 ?_
  refine jr_icmp_ge dX12_init_209 (tgt := 247) (by decide) (fun c => absurd c (by decide)) (fun _ => ?_)
  refine jr_aload_n dX12_init_212 rfl rfl ?_
  refine jr_geta ff_X12_11 rfl ((u2Ri (by decide)).trans ((u2Ri (by decide)).trans ((u2Ri (by decide)).trans ((u2Ri (by decide)).trans ((u2Ri (by decide)).trans ((u2Ri (by decide)).trans ((u2Ri (by decide)).trans ((u2Ri (by decide)).trans ((u2Ri (by decide)).trans ((u2Ri (by decide)).trans ((u2Ri (by decide)).trans ((u2Ri (by decide)).trans ((u2Ri (by decide)).trans ((u2Ri (by decide)).trans ((u2Ri (by decide)).trans ((u2Ri (by decide)).trans ((u2Ri (by decide)).trans ((u2Ri (by decide)).trans ((u2Ri (by decide)).trans ((u2Ri (by decide)).trans u2Re)))))))))))))))))))) dX12_init_213 ?_
  refine jr_iload_n dX12_init_216 rfl rfl ?_
  refine jr_bipush dX12_init_217 kbp_30 ?_
  refine jr_iastore nn_5 rfl dX12_init_219 vin_5_125 ?_
  have hz := hz.u2 (i := 5) (x := (30 : Int32)) (show 72 < 93 by decide)
  refine jr_aload_n dX12_init_220 rfl rfl ?_
  refine jr_geta ff_X12_11 rfl ((u2Ri (by decide)).trans ((u2Ri (by decide)).trans ((u2Ri (by decide)).trans ((u2Ri (by decide)).trans ((u2Ri (by decide)).trans ((u2Ri (by decide)).trans ((u2Ri (by decide)).trans ((u2Ri (by decide)).trans ((u2Ri (by decide)).trans ((u2Ri (by decide)).trans ((u2Ri (by decide)).trans ((u2Ri (by decide)).trans ((u2Ri (by decide)).trans ((u2Ri (by decide)).trans ((u2Ri (by decide)).trans ((u2Ri (by decide)).trans ((u2Ri (by decide)).trans ((u2Ri (by decide)).trans ((u2Ri (by decide)).trans ((u2Ri (by decide)).trans u2Re)))))))))))))))))))) dX12_init_221 ?_
  refine jr_bipush dX12_init_224 kbp_24 ?_
  refine jr_iload_n dX12_init_226 rfl rfl ?_
  refine jr_iadd dX12_init_227 ?_
  rw [show (24 : Int32) + (5 : Int32) = (29 : Int32) by decide]
  refine jr_iconst dX12_init_228 kic_1 ?_
  refine jr_iastore nn_29 rfl dX12_init_229 vin_29_125 ?_
  have hz := hz.u2 (i := 29) (x := (1 : Int32)) (show 72 < 93 by decide)
  refine jr_aload_n dX12_init_230 rfl rfl ?_
  refine jr_geta ff_X12_11 rfl ((u2Ri (by decide)).trans ((u2Ri (by decide)).trans ((u2Ri (by decide)).trans ((u2Ri (by decide)).trans ((u2Ri (by decide)).trans ((u2Ri (by decide)).trans ((u2Ri (by decide)).trans ((u2Ri (by decide)).trans ((u2Ri (by decide)).trans ((u2Ri (by decide)).trans ((u2Ri (by decide)).trans ((u2Ri (by decide)).trans ((u2Ri (by decide)).trans ((u2Ri (by decide)).trans ((u2Ri (by decide)).trans ((u2Ri (by decide)).trans ((u2Ri (by decide)).trans ((u2Ri (by decide)).trans ((u2Ri (by decide)).trans ((u2Ri (by decide)).trans u2Re)))))))))))))))))))) dX12_init_231 ?_
  refine jr_bipush dX12_init_234 kbp_72 ?_
  refine jr_iload_n dX12_init_236 rfl rfl ?_
  refine jr_iadd dX12_init_237 ?_
  rw [show (72 : Int32) + (5 : Int32) = (77 : Int32) by decide]
  refine jr_bipush dX12_init_238 kbp_10 ?_
  refine jr_iastore nn_77 rfl dX12_init_240 vin_77_125 ?_
  have hz := hz.u2 (i := 77) (x := (10 : Int32)) (show 72 < 93 by decide)
  refine jr_iinc (v := (6 : Int32)) dX12_init_241 rfl (by decide) (by decide) rfl ?_
  refine jr_goto dX12_init_244 (tgt := 206) (by decide) ?_
  refine jr_iload_n dX12_init_206 rfl rfl ?_
  refine jr_bipush dX12_init_207 kbp_24 ?_
  refine jr_icmp_ge dX12_init_209 (tgt := 247) (by decide) (fun c => absurd c (by decide)) (fun _ => ?_)
  refine jr_aload_n dX12_init_212 rfl rfl ?_
  refine jr_geta ff_X12_11 rfl ((u2Ri (by decide)).trans ((u2Ri (by decide)).trans ((u2Ri (by decide)).trans ((u2Ri (by decide)).trans ((u2Ri (by decide)).trans ((u2Ri (by decide)).trans ((u2Ri (by decide)).trans ((u2Ri (by decide)).trans ((u2Ri (by decide)).trans ((u2Ri (by decide)).trans ((u2Ri (by decide)).trans ((u2Ri (by decide)).trans ((u2Ri (by decide)).trans ((u2Ri (by decide)).trans ((u2Ri (by decide)).trans ((u2Ri (by decide)).trans ((u2Ri (by decide)).trans ((u2Ri (by decide)).trans ((u2Ri (by decide)).trans ((u2Ri (by decide)).trans u2Re)))))))))))))))))))) dX12_init_213 ?_
  refine jr_iload_n dX12_init_216 rfl rfl ?_
  refine jr_bipush dX12_init_217 kbp_30 ?_
  refine jr_iastore nn_6 rfl dX12_init_219 vin_6_125 ?_
  have hz := hz.u2 (i := 6) (x := (30 : Int32)) (show 72 < 93 by decide)
  refine jr_aload_n dX12_init_220 rfl rfl ?_
  refine jr_geta ff_X12_11 rfl ((u2Ri (by decide)).trans ((u2Ri (by decide)).trans ((u2Ri (by decide)).trans ((u2Ri (by decide)).trans ((u2Ri (by decide)).trans ((u2Ri (by decide)).trans ((u2Ri (by decide)).trans ((u2Ri (by decide)).trans ((u2Ri (by decide)).trans ((u2Ri (by decide)).trans ((u2Ri (by decide)).trans ((u2Ri (by decide)).trans ((u2Ri (by decide)).trans ((u2Ri (by decide)).trans ((u2Ri (by decide)).trans ((u2Ri (by decide)).trans ((u2Ri (by decide)).trans ((u2Ri (by decide)).trans ((u2Ri (by decide)).trans ((u2Ri (by decide)).trans u2Re)))))))))))))))))))) dX12_init_221 ?_
  refine jr_bipush dX12_init_224 kbp_24 ?_
  refine jr_iload_n dX12_init_226 rfl rfl ?_
  refine jr_iadd dX12_init_227 ?_
  rw [show (24 : Int32) + (6 : Int32) = (30 : Int32) by decide]
  refine jr_iconst dX12_init_228 kic_1 ?_
  refine jr_iastore nn_30 rfl dX12_init_229 vin_30_125 ?_
  have hz := hz.u2 (i := 30) (x := (1 : Int32)) (show 72 < 93 by decide)
  refine jr_aload_n dX12_init_230 rfl rfl ?_
  refine jr_geta ff_X12_11 rfl ((u2Ri (by decide)).trans ((u2Ri (by decide)).trans ((u2Ri (by decide)).trans ((u2Ri (by decide)).trans ((u2Ri (by decide)).trans ((u2Ri (by decide)).trans ((u2Ri (by decide)).trans ((u2Ri (by decide)).trans ((u2Ri (by decide)).trans ((u2Ri (by decide)).trans ((u2Ri (by decide)).trans ((u2Ri (by decide)).trans ((u2Ri (by decide)).trans ((u2Ri (by decide)).trans ((u2Ri (by decide)).trans ((u2Ri (by decide)).trans ((u2Ri (by decide)).trans ((u2Ri (by decide)).trans ((u2Ri (by decide)).trans ((u2Ri (by decide)).trans u2Re)))))))))))))))))))) dX12_init_231 ?_
  refine jr_bipush dX12_init_234 kbp_72 ?_
  refine jr_iload_n dX12_init_236 rfl rfl ?_
  refine jr_iadd dX12_init_237 ?_
  rw [show (72 : Int32) + (6 : Int32) = (78 : Int32) by decide]
  refine jr_bipush dX12_init_238 kbp_10 ?_
  refine jr_iastore nn_78 rfl dX12_init_240 vin_78_125 ?_
  have hz := hz.u2 (i := 78) (x := (10 : Int32)) (show 72 < 93 by decide)
  refine jr_iinc (v := (7 : Int32)) dX12_init_241 rfl (by decide) (by decide) rfl ?_
  refine jr_goto dX12_init_244 (tgt := 206) (by decide) ?_
  refine jr_iload_n dX12_init_206 rfl rfl ?_
  refine jr_bipush dX12_init_207 kbp_24 ?_
  refine jr_icmp_ge dX12_init_209 (tgt := 247) (by decide) (fun c => absurd c (by decide)) (fun _ => ?_)
  refine jr_aload_n dX12_init_212 rfl rfl ?_
  refine jr_geta ff_X12_11 rfl ((u2Ri (by decide)).trans ((u2Ri (by decide)).trans ((u2Ri (by decide)).trans ((u2Ri (by decide)).trans ((u2Ri (by decide)).trans ((u2Ri (by decide)).trans ((u2Ri (by decide)).trans ((u2Ri (by decide)).trans ((u2Ri (by decide)).trans ((u2Ri (by decide)).trans ((u2Ri (by decide)).trans ((u2Ri (by decide)).trans ((u2Ri (by decide)).trans ((u2Ri (by decide)).trans ((u2Ri (by decide)).trans ((u2Ri (by decide)).trans ((u2Ri (by decide)).trans ((u2Ri (by decide)).trans ((u2Ri (by decide)).trans ((u2Ri (by decide)).trans u2Re)))))))))))))))))))) dX12_init_213 ?_
  refine jr_iload_n dX12_init_216 rfl rfl ?_
  refine jr_bipush dX12_init_217 kbp_30 ?_
  refine jr_iastore nn_7 rfl dX12_init_219 vin_7_125 ?_
  have hz := hz.u2 (i := 7) (x := (30 : Int32)) (show 72 < 93 by decide)
  refine jr_aload_n dX12_init_220 rfl rfl ?_
  refine jr_geta ff_X12_11 rfl ((u2Ri (by decide)).trans ((u2Ri (by decide)).trans ((u2Ri (by decide)).trans ((u2Ri (by decide)).trans ((u2Ri (by decide)).trans ((u2Ri (by decide)).trans ((u2Ri (by decide)).trans ((u2Ri (by decide)).trans ((u2Ri (by decide)).trans ((u2Ri (by decide)).trans ((u2Ri (by decide)).trans ((u2Ri (by decide)).trans ((u2Ri (by decide)).trans ((u2Ri (by decide)).trans ((u2Ri (by decide)).trans ((u2Ri (by decide)).trans ((u2Ri (by decide)).trans ((u2Ri (by decide)).trans ((u2Ri (by decide)).trans ((u2Ri (by decide)).trans u2Re)))))))))))))))))))) dX12_init_221 ?_
  refine jr_bipush dX12_init_224 kbp_24 ?_
  refine jr_iload_n dX12_init_226 rfl rfl ?_
  refine jr_iadd dX12_init_227 ?_
  rw [show (24 : Int32) + (7 : Int32) = (31 : Int32) by decide]
  refine jr_iconst dX12_init_228 kic_1 ?_
  refine jr_iastore nn_31 rfl dX12_init_229 vin_31_125 ?_
  have hz := hz.u2 (i := 31) (x := (1 : Int32)) (show 72 < 93 by decide)
  refine jr_aload_n dX12_init_230 rfl rfl ?_
  refine jr_geta ff_X12_11 rfl ((u2Ri (by decide)).trans ((u2Ri (by decide)).trans ((u2Ri (by decide)).trans ((u2Ri (by decide)).trans ((u2Ri (by decide)).trans ((u2Ri (by decide)).trans ((u2Ri (by decide)).trans ((u2Ri (by decide)).trans ((u2Ri (by decide)).trans ((u2Ri (by decide)).trans ((u2Ri (by decide)).trans ((u2Ri (by decide)).trans ((u2Ri (by decide)).trans ((u2Ri (by decide)).trans ((u2Ri (by decide)).trans ((u2Ri (by decide)).trans ((u2Ri (by decide)).trans ((u2Ri (by decide)).trans ((u2Ri (by decide)).trans ((u2Ri (by decide)).trans u2Re)))))))))))))))))))) dX12_init_231 ?_
  refine jr_bipush dX12_init_234 kbp_72 ?_
  refine jr_iload_n dX12_init_236 rfl rfl ?_
  refine jr_iadd dX12_init_237 ?_
  rw [show (72 : Int32) + (7 : Int32) = (79 : Int32) by decide]
  refine jr_bipush dX12_init_238 kbp_10 ?_
  refine jr_iastore nn_79 rfl dX12_init_240 vin_79_125 ?_
  have hz := hz.u2 (i := 79) (x := (10 : Int32)) (show 72 < 93 by decide)
  refine jr_iinc (v := (8 : Int32)) dX12_init_241 rfl (by decide) (by decide) rfl ?_
  refine jr_goto dX12_init_244 (tgt := 206) (by decide) ?_
  refine jr_iload_n dX12_init_206 rfl rfl ?_
  refine jr_bipush dX12_init_207 kbp_24 ?_
  refine jr_icmp_ge dX12_init_209 (tgt := 247) (by decide) (fun c => absurd c (by decide)) (fun _ => ?_)
  refine jr_aload_n dX12_init_212 rfl rfl ?_
  refine jr_geta ff_X12_11 rfl ((u2Ri (by decide)).trans ((u2Ri (by decide)).trans ((u2Ri (by decide)).trans ((u2Ri (by decide)).trans ((u2Ri (by decide)).trans ((u2Ri (by decide)).trans ((u2Ri (by decide)).trans ((u2Ri (by decide)).trans ((u2Ri (by decide)).trans ((u2Ri (by decide)).trans ((u2Ri (by decide)).trans ((u2Ri (by decide)).trans ((u2Ri (by decide)).trans ((u2Ri (by decide)).trans ((u2Ri (by decide)).trans ((u2Ri (by decide)).trans ((u2Ri (by decide)).trans ((u2Ri (by decide)).trans ((u2Ri (by decide)).trans ((u2Ri (by decide)).trans u2Re)))))))))))))))))))) dX12_init_213 ?_
  refine jr_iload_n dX12_init_216 rfl rfl ?_
  refine jr_bipush dX12_init_217 kbp_30 ?_
  refine jr_iastore nn_8 rfl dX12_init_219 vin_8_125 ?_
  have hz := hz.u2 (i := 8) (x := (30 : Int32)) (show 72 < 93 by decide)
  refine jr_aload_n dX12_init_220 rfl rfl ?_
  refine jr_geta ff_X12_11 rfl ((u2Ri (by decide)).trans ((u2Ri (by decide)).trans ((u2Ri (by decide)).trans ((u2Ri (by decide)).trans ((u2Ri (by decide)).trans ((u2Ri (by decide)).trans ((u2Ri (by decide)).trans ((u2Ri (by decide)).trans ((u2Ri (by decide)).trans ((u2Ri (by decide)).trans ((u2Ri (by decide)).trans ((u2Ri (by decide)).trans ((u2Ri (by decide)).trans ((u2Ri (by decide)).trans ((u2Ri (by decide)).trans ((u2Ri (by decide)).trans ((u2Ri (by decide)).trans ((u2Ri (by decide)).trans ((u2Ri (by decide)).trans ((u2Ri (by decide)).trans u2Re)))))))))))))))))))) dX12_init_221 ?_
  refine jr_bipush dX12_init_224 kbp_24 ?_
  refine jr_iload_n dX12_init_226 rfl rfl ?_
  refine jr_iadd dX12_init_227 ?_
  rw [show (24 : Int32) + (8 : Int32) = (32 : Int32) by decide]
  refine jr_iconst dX12_init_228 kic_1 ?_
  refine jr_iastore nn_32 rfl dX12_init_229 vin_32_125 ?_
  have hz := hz.u2 (i := 32) (x := (1 : Int32)) (show 72 < 93 by decide)
  refine jr_aload_n dX12_init_230 rfl rfl ?_
  refine jr_geta ff_X12_11 rfl ((u2Ri (by decide)).trans ((u2Ri (by decide)).trans ((u2Ri (by decide)).trans ((u2Ri (by decide)).trans ((u2Ri (by decide)).trans ((u2Ri (by decide)).trans ((u2Ri (by decide)).trans ((u2Ri (by decide)).trans ((u2Ri (by decide)).trans ((u2Ri (by decide)).trans ((u2Ri (by decide)).trans ((u2Ri (by decide)).trans ((u2Ri (by decide)).trans ((u2Ri (by decide)).trans ((u2Ri (by decide)).trans ((u2Ri (by decide)).trans ((u2Ri (by decide)).trans ((u2Ri (by decide)).trans ((u2Ri (by decide)).trans ((u2Ri (by decide)).trans u2Re)))))))))))))))))))) dX12_init_231 ?_
  refine jr_bipush dX12_init_234 kbp_72 ?_
  refine jr_iload_n dX12_init_236 rfl rfl ?_
  refine jr_iadd dX12_init_237 ?_
  rw [show (72 : Int32) + (8 : Int32) = (80 : Int32) by decide]
  refine jr_bipush dX12_init_238 kbp_10 ?_
  refine jr_iastore nn_80 rfl dX12_init_240 vin_80_125 ?_
  have hz := hz.u2 (i := 80) (x := (10 : Int32)) (show 72 < 93 by decide)
  refine jr_iinc (v := (9 : Int32)) dX12_init_241 rfl (by decide) (by decide) rfl ?_
  refine jr_goto dX12_init_244 (tgt := 206) (by decide) ?_
  refine jr_iload_n dX12_init_206 rfl rfl ?_
  refine jr_bipush dX12_init_207 kbp_24 ?_
  refine jr_icmp_ge dX12_init_209 (tgt := 247) (by decide) (fun c => absurd c (by decide)) (fun _ => ?_)
  refine jr_aload_n dX12_init_212 rfl rfl ?_
  refine jr_geta ff_X12_11 rfl ((u2Ri (by decide)).trans ((u2Ri (by decide)).trans ((u2Ri (by decide)).trans ((u2Ri (by decide)).trans ((u2Ri (by decide)).trans ((u2Ri (by decide)).trans ((u2Ri (by decide)).trans ((u2Ri (by decide)).trans ((u2Ri (by decide)).trans ((u2Ri (by decide)).trans ((u2Ri (by decide)).trans ((u2Ri (by decide)).trans ((u2Ri (by decide)).trans ((u2Ri (by decide)).trans ((u2Ri (by decide)).trans ((u2Ri (by decide)).trans ((u2Ri (by decide)).trans ((u2Ri (by decide)).trans ((u2Ri (by decide)).trans ((u2Ri (by decide)).trans u2Re)))))))))))))))))))) dX12_init_213 ?_
  refine jr_iload_n dX12_init_216 rfl rfl ?_
  refine jr_bipush dX12_init_217 kbp_30 ?_
  refine jr_iastore nn_9 rfl dX12_init_219 vin_9_125 ?_
  have hz := hz.u2 (i := 9) (x := (30 : Int32)) (show 72 < 93 by decide)
  refine jr_aload_n dX12_init_220 rfl rfl ?_
  refine jr_geta ff_X12_11 rfl ((u2Ri (by decide)).trans ((u2Ri (by decide)).trans ((u2Ri (by decide)).trans ((u2Ri (by decide)).trans ((u2Ri (by decide)).trans ((u2Ri (by decide)).trans ((u2Ri (by decide)).trans ((u2Ri (by decide)).trans ((u2Ri (by decide)).trans ((u2Ri (by decide)).trans ((u2Ri (by decide)).trans ((u2Ri (by decide)).trans ((u2Ri (by decide)).trans ((u2Ri (by decide)).trans ((u2Ri (by decide)).trans ((u2Ri (by decide)).trans ((u2Ri (by decide)).trans ((u2Ri (by decide)).trans ((u2Ri (by decide)).trans ((u2Ri (by decide)).trans u2Re)))))))))))))))))))) dX12_init_221 ?_
  refine jr_bipush dX12_init_224 kbp_24 ?_
  refine jr_iload_n dX12_init_226 rfl rfl ?_
  refine jr_iadd dX12_init_227 ?_
  rw [show (24 : Int32) + (9 : Int32) = (33 : Int32) by decide]
  refine jr_iconst dX12_init_228 kic_1 ?_
  refine jr_iastore nn_33 rfl dX12_init_229 vin_33_125 ?_
  have hz := hz.u2 (i := 33) (x := (1 : Int32)) (show 72 < 93 by decide)
  refine jr_aload_n dX12_init_230 rfl rfl ?_
  refine jr_geta ff_X12_11 rfl ((u2Ri (by decide)).trans ((u2Ri (by decide)).trans ((u2Ri (by decide)).trans ((u2Ri (by decide)).trans ((u2Ri (by decide)).trans ((u2Ri (by decide)).trans ((u2Ri (by decide)).trans ((u2Ri (by decide)).trans ((u2Ri (by decide)).trans ((u2Ri (by decide)).trans ((u2Ri (by decide)).trans ((u2Ri (by decide)).trans ((u2Ri (by decide)).trans ((u2Ri (by decide)).trans ((u2Ri (by decide)).trans ((u2Ri (by decide)).trans ((u2Ri (by decide)).trans ((u2Ri (by decide)).trans ((u2Ri (by decide)).trans ((u2Ri (by decide)).trans u2Re)))))))))))))))))))) dX12_init_231 ?_
  refine jr_bipush dX12_init_234 kbp_72 ?_
  refine jr_iload_n dX12_init_236 rfl rfl ?_
  refine jr_iadd dX12_init_237 ?_
  rw [show (72 : Int32) + (9 : Int32) = (81 : Int32) by decide]
  refine jr_bipush dX12_init_238 kbp_10 ?_
  refine jr_iastore nn_81 rfl dX12_init_240 vin_81_125 ?_
  have hz := hz.u2 (i := 81) (x := (10 : Int32)) (show 72 < 93 by decide)
  refine jr_iinc (v := (10 : Int32)) dX12_init_241 rfl (by decide) (by decide) rfl ?_
  refine jr_goto dX12_init_244 (tgt := 206) (by decide) ?_
  refine jr_iload_n dX12_init_206 rfl rfl ?_
  refine jr_bipush dX12_init_207 kbp_24 ?_
  refine jr_icmp_ge dX12_init_209 (tgt := 247) (by decide) (fun c => absurd c (by decide)) (fun _ => ?_)
  refine jr_aload_n dX12_init_212 rfl rfl ?_
  refine jr_geta ff_X12_11 rfl ((u2Ri (by decide)).trans ((u2Ri (by decide)).trans ((u2Ri (by decide)).trans ((u2Ri (by decide)).trans ((u2Ri (by decide)).trans ((u2Ri (by decide)).trans ((u2Ri (by decide)).trans ((u2Ri (by decide)).trans ((u2Ri (by decide)).trans ((u2Ri (by decide)).trans ((u2Ri (by decide)).trans ((u2Ri (by decide)).trans ((u2Ri (by decide)).trans ((u2Ri (by decide)).trans ((u2Ri (by decide)).trans ((u2Ri (by decide)).trans ((u2Ri (by decide)).trans ((u2Ri (by decide)).trans ((u2Ri (by decide)).trans ((u2Ri (by decide)).trans u2Re)))))))))))))))))))) dX12_init_213 ?_
  refine jr_iload_n dX12_init_216 rfl rfl ?_
  refine jr_bipush dX12_init_217 kbp_30 ?_
  refine jr_iastore nn_10 rfl dX12_init_219 vin_10_125 ?_
  have hz := hz.u2 (i := 10) (x := (30 : Int32)) (show 72 < 93 by decide)
  refine jr_aload_n dX12_init_220 rfl rfl ?_
  refine jr_geta ff_X12_11 rfl ((u2Ri (by decide)).trans ((u2Ri (by decide)).trans ((u2Ri (by decide)).trans ((u2Ri (by decide)).trans ((u2Ri (by decide)).trans ((u2Ri (by decide)).trans ((u2Ri (by decide)).trans ((u2Ri (by decide)).trans ((u2Ri (by decide)).trans ((u2Ri (by decide)).trans ((u2Ri (by decide)).trans ((u2Ri (by decide)).trans ((u2Ri (by decide)).trans ((u2Ri (by decide)).trans ((u2Ri (by decide)).trans ((u2Ri (by decide)).trans ((u2Ri (by decide)).trans ((u2Ri (by decide)).trans ((u2Ri (by decide)).trans ((u2Ri (by decide)).trans u2Re)))))))))))))))))))) dX12_init_221 ?_
  refine jr_bipush dX12_init_224 kbp_24 ?_
  refine jr_iload_n dX12_init_226 rfl rfl ?_
  refine jr_iadd dX12_init_227 ?_
  rw [show (24 : Int32) + (10 : Int32) = (34 : Int32) by decide]
  refine jr_iconst dX12_init_228 kic_1 ?_
  refine jr_iastore nn_34 rfl dX12_init_229 vin_34_125 ?_
  have hz := hz.u2 (i := 34) (x := (1 : Int32)) (show 72 < 93 by decide)
  refine jr_aload_n dX12_init_230 rfl rfl ?_
  refine jr_geta ff_X12_11 rfl ((u2Ri (by decide)).trans ((u2Ri (by decide)).trans ((u2Ri (by decide)).trans ((u2Ri (by decide)).trans ((u2Ri (by decide)).trans ((u2Ri (by decide)).trans ((u2Ri (by decide)).trans ((u2Ri (by decide)).trans ((u2Ri (by decide)).trans ((u2Ri (by decide)).trans ((u2Ri (by decide)).trans ((u2Ri (by decide)).trans ((u2Ri (by decide)).trans ((u2Ri (by decide)).trans ((u2Ri (by decide)).trans ((u2Ri (by decide)).trans ((u2Ri (by decide)).trans ((u2Ri (by decide)).trans ((u2Ri (by decide)).trans ((u2Ri (by decide)).trans u2Re)))))))))))))))))))) dX12_init_231 ?_
  refine jr_bipush dX12_init_234 kbp_72 ?_
  refine jr_iload_n dX12_init_236 rfl rfl ?_
  refine jr_iadd dX12_init_237 ?_
  rw [show (72 : Int32) + (10 : Int32) = (82 : Int32) by decide]
  refine jr_bipush dX12_init_238 kbp_10 ?_
  refine jr_iastore nn_82 rfl dX12_init_240 vin_82_125 ?_
  have hz := hz.u2 (i := 82) (x := (10 : Int32)) (show 72 < 93 by decide)
  refine jr_iinc (v := (11 : Int32)) dX12_init_241 rfl (by decide) (by decide) rfl ?_
  refine jr_goto dX12_init_244 (tgt := 206) (by decide) ?_
  refine jr_iload_n dX12_init_206 rfl rfl ?_
  refine jr_bipush dX12_init_207 kbp_24 ?_
  refine jr_icmp_ge dX12_init_209 (tgt := 247) (by decide) (fun c => absurd c (by decide)) (fun _ => ?_)
  refine jr_aload_n dX12_init_212 rfl rfl ?_
  refine jr_geta ff_X12_11 rfl ((u2Ri (by decide)).trans ((u2Ri (by decide)).trans ((u2Ri (by decide)).trans ((u2Ri (by decide)).trans ((u2Ri (by decide)).trans ((u2Ri (by decide)).trans ((u2Ri (by decide)).trans ((u2Ri (by decide)).trans ((u2Ri (by decide)).trans ((u2Ri (by decide)).trans ((u2Ri (by decide)).trans ((u2Ri (by decide)).trans ((u2Ri (by decide)).trans ((u2Ri (by decide)).trans ((u2Ri (by decide)).trans ((u2Ri (by decide)).trans ((u2Ri (by decide)).trans ((u2Ri (by decide)).trans ((u2Ri (by decide)).trans ((u2Ri (by decide)).trans u2Re)))))))))))))))))))) dX12_init_213 ?_
  refine jr_iload_n dX12_init_216 rfl rfl ?_
  refine jr_bipush dX12_init_217 kbp_30 ?_
  refine jr_iastore nn_11 rfl dX12_init_219 vin_11_125 ?_
  have hz := hz.u2 (i := 11) (x := (30 : Int32)) (show 72 < 93 by decide)
  refine jr_aload_n dX12_init_220 rfl rfl ?_
  refine jr_geta ff_X12_11 rfl ((u2Ri (by decide)).trans ((u2Ri (by decide)).trans ((u2Ri (by decide)).trans ((u2Ri (by decide)).trans ((u2Ri (by decide)).trans ((u2Ri (by decide)).trans ((u2Ri (by decide)).trans ((u2Ri (by decide)).trans ((u2Ri (by decide)).trans ((u2Ri (by decide)).trans ((u2Ri (by decide)).trans ((u2Ri (by decide)).trans ((u2Ri (by decide)).trans ((u2Ri (by decide)).trans ((u2Ri (by decide)).trans ((u2Ri (by decide)).trans ((u2Ri (by decide)).trans ((u2Ri (by decide)).trans ((u2Ri (by decide)).trans ((u2Ri (by decide)).trans u2Re)))))))))))))))))))) dX12_init_221 ?_
  refine jr_bipush dX12_init_224 kbp_24 ?_
  refine jr_iload_n dX12_init_226 rfl rfl ?_
  refine jr_iadd dX12_init_227 ?_
  rw [show (24 : Int32) + (11 : Int32) = (35 : Int32) by decide]
  refine jr_iconst dX12_init_228 kic_1 ?_
  refine jr_iastore nn_35 rfl dX12_init_229 vin_35_125 ?_
  have hz := hz.u2 (i := 35) (x := (1 : Int32)) (show 72 < 93 by decide)
  refine jr_aload_n dX12_init_230 rfl rfl ?_
  refine jr_geta ff_X12_11 rfl ((u2Ri (by decide)).trans ((u2Ri (by decide)).trans ((u2Ri (by decide)).trans ((u2Ri (by decide)).trans ((u2Ri (by decide)).trans ((u2Ri (by decide)).trans ((u2Ri (by decide)).trans ((u2Ri (by decide)).trans ((u2Ri (by decide)).trans ((u2Ri (by decide)).trans ((u2Ri (by decide)).trans ((u2Ri (by decide)).trans ((u2Ri (by decide)).trans ((u2Ri (by decide)).trans ((u2Ri (by decide)).trans ((u2Ri (by decide)).trans ((u2Ri (by decide)).trans ((u2Ri (by decide)).trans ((u2Ri (by decide)).trans ((u2Ri (by decide)).trans u2Re)))))))))))))))))))) dX12_init_231 ?_
  refine jr_bipush dX12_init_234 kbp_72 ?_
  refine jr_iload_n dX12_init_236 rfl rfl ?_
  refine jr_iadd dX12_init_237 ?_
  rw [show (72 : Int32) + (11 : Int32) = (83 : Int32) by decide]
  refine jr_bipush dX12_init_238 kbp_10 ?_
  refine jr_iastore nn_83 rfl dX12_init_240 vin_83_125 ?_
  have hz := hz.u2 (i := 83) (x := (10 : Int32)) (show 72 < 93 by decide)
  refine jr_iinc (v := (12 : Int32)) dX12_init_241 rfl (by decide) (by decide) rfl ?_
  refine jr_goto dX12_init_244 (tgt := 206) (by decide) ?_
  refine jr_iload_n dX12_init_206 rfl rfl ?_
  refine jr_bipush dX12_init_207 kbp_24 ?_
  refine jr_icmp_ge dX12_init_209 (tgt := 247) (by decide) (fun c => absurd c (by decide)) (fun _ => ?_)
  refine jr_aload_n dX12_init_212 rfl rfl ?_
  refine jr_geta ff_X12_11 rfl ((u2Ri (by decide)).trans ((u2Ri (by decide)).trans ((u2Ri (by decide)).trans ((u2Ri (by decide)).trans ((u2Ri (by decide)).trans ((u2Ri (by decide)).trans ((u2Ri (by decide)).trans ((u2Ri (by decide)).trans ((u2Ri (by decide)).trans ((u2Ri (by decide)).trans ((u2Ri (by decide)).trans ((u2Ri (by decide)).trans ((u2Ri (by decide)).trans ((u2Ri (by decide)).trans ((u2Ri (by decide)).trans ((u2Ri (by decide)).trans ((u2Ri (by decide)).trans ((u2Ri (by decide)).trans ((u2Ri (by decide)).trans ((u2Ri (by decide)).trans u2Re)))))))))))))))))))) dX12_init_213 ?_
  refine jr_iload_n dX12_init_216 rfl rfl ?_
  refine jr_bipush dX12_init_217 kbp_30 ?_
  refine jr_iastore nn_12 rfl dX12_init_219 vin_12_125 ?_
  have hz := hz.u2 (i := 12) (x := (30 : Int32)) (show 72 < 93 by decide)
  refine jr_aload_n dX12_init_220 rfl rfl ?_
  refine jr_geta ff_X12_11 rfl ((u2Ri (by decide)).trans ((u2Ri (by decide)).trans ((u2Ri (by decide)).trans ((u2Ri (by decide)).trans ((u2Ri (by decide)).trans ((u2Ri (by decide)).trans ((u2Ri (by decide)).trans ((u2Ri (by decide)).trans ((u2Ri (by decide)).trans ((u2Ri (by decide)).trans ((u2Ri (by decide)).trans ((u2Ri (by decide)).trans ((u2Ri (by decide)).trans ((u2Ri (by decide)).trans ((u2Ri (by decide)).trans ((u2Ri (by decide)).trans ((u2Ri (by decide)).trans ((u2Ri (by decide)).trans ((u2Ri (by decide)).trans ((u2Ri (by decide)).trans u2Re)))))))))))))))))))) dX12_init_221 ?_
  refine jr_bipush dX12_init_224 kbp_24 ?_
  refine jr_iload_n dX12_init_226 rfl rfl ?_
  refine jr_iadd dX12_init_227 ?_
  rw [show (24 : Int32) + (12 : Int32) = (36 : Int32) by decide]
  refine jr_iconst dX12_init_228 kic_1 ?_
  refine jr_iastore nn_36 rfl dX12_init_229 vin_36_125 ?_
  have hz := hz.u2 (i := 36) (x := (1 : Int32)) (show 72 < 93 by decide)
  refine jr_aload_n dX12_init_230 rfl rfl ?_
  refine jr_geta ff_X12_11 rfl ((u2Ri (by decide)).trans ((u2Ri (by decide)).trans ((u2Ri (by decide)).trans ((u2Ri (by decide)).trans ((u2Ri (by decide)).trans ((u2Ri (by decide)).trans ((u2Ri (by decide)).trans ((u2Ri (by decide)).trans ((u2Ri (by decide)).trans ((u2Ri (by decide)).trans ((u2Ri (by decide)).trans ((u2Ri (by decide)).trans ((u2Ri (by decide)).trans ((u2Ri (by decide)).trans ((u2Ri (by decide)).trans ((u2Ri (by decide)).trans ((u2Ri (by decide)).trans ((u2Ri (by decide)).trans ((u2Ri (by decide)).trans ((u2Ri (by decide)).trans u2Re)))))))))))))))))))) dX12_init_231 ?_
  refine jr_bipush dX12_init_234 kbp_72 ?_
  refine jr_iload_n dX12_init_236 rfl rfl ?_
  refine jr_iadd dX12_init_237 ?_
  rw [show (72 : Int32) + (12 : Int32) = (84 : Int32) by decide]
  refine jr_bipush dX12_init_238 kbp_10 ?_
  refine jr_iastore nn_84 rfl dX12_init_240 vin_84_125 ?_
  have hz := hz.u2 (i := 84) (x := (10 : Int32)) (show 72 < 93 by decide)
  refine jr_iinc (v := (13 : Int32)) dX12_init_241 rfl (by decide) (by decide) rfl ?_
  refine jr_goto dX12_init_244 (tgt := 206) (by decide) ?_
  refine jr_iload_n dX12_init_206 rfl rfl ?_
  refine jr_bipush dX12_init_207 kbp_24 ?_
  refine jr_icmp_ge dX12_init_209 (tgt := 247) (by decide) (fun c => absurd c (by decide)) (fun _ => ?_)
  refine jr_aload_n dX12_init_212 rfl rfl ?_
  refine jr_geta ff_X12_11 rfl ((u2Ri (by decide)).trans ((u2Ri (by decide)).trans ((u2Ri (by decide)).trans ((u2Ri (by decide)).trans ((u2Ri (by decide)).trans ((u2Ri (by decide)).trans ((u2Ri (by decide)).trans ((u2Ri (by decide)).trans ((u2Ri (by decide)).trans ((u2Ri (by decide)).trans ((u2Ri (by decide)).trans ((u2Ri (by decide)).trans ((u2Ri (by decide)).trans ((u2Ri (by decide)).trans ((u2Ri (by decide)).trans ((u2Ri (by decide)).trans ((u2Ri (by decide)).trans ((u2Ri (by decide)).trans ((u2Ri (by decide)).trans ((u2Ri (by decide)).trans u2Re)))))))))))))))))))) dX12_init_213 ?_
  refine jr_iload_n dX12_init_216 rfl rfl ?_
  refine jr_bipush dX12_init_217 kbp_30 ?_
  refine jr_iastore nn_13 rfl dX12_init_219 vin_13_125 ?_
  have hz := hz.u2 (i := 13) (x := (30 : Int32)) (show 72 < 93 by decide)
  refine jr_aload_n dX12_init_220 rfl rfl ?_
  refine jr_geta ff_X12_11 rfl ((u2Ri (by decide)).trans ((u2Ri (by decide)).trans ((u2Ri (by decide)).trans ((u2Ri (by decide)).trans ((u2Ri (by decide)).trans ((u2Ri (by decide)).trans ((u2Ri (by decide)).trans ((u2Ri (by decide)).trans ((u2Ri (by decide)).trans ((u2Ri (by decide)).trans ((u2Ri (by decide)).trans ((u2Ri (by decide)).trans ((u2Ri (by decide)).trans ((u2Ri (by decide)).trans ((u2Ri (by decide)).trans ((u2Ri (by decide)).trans ((u2Ri (by decide)).trans ((u2Ri (by decide)).trans ((u2Ri (by decide)).trans ((u2Ri (by decide)).trans u2Re)))))))))))))))))))) dX12_init_221 ?_
  refine jr_bipush dX12_init_224 kbp_24 ?_
  refine jr_iload_n dX12_init_226 rfl rfl ?_
  refine jr_iadd dX12_init_227 ?_
  rw [show (24 : Int32) + (13 : Int32) = (37 : Int32) by decide]
  refine jr_iconst dX12_init_228 kic_1 ?_
  refine jr_iastore nn_37 rfl dX12_init_229 vin_37_125 ?_
  have hz := hz.u2 (i := 37) (x := (1 : Int32)) (show 72 < 93 by decide)
  refine jr_aload_n dX12_init_230 rfl rfl ?_
  refine jr_geta ff_X12_11 rfl ((u2Ri (by decide)).trans ((u2Ri (by decide)).trans ((u2Ri (by decide)).trans ((u2Ri (by decide)).trans ((u2Ri (by decide)).trans ((u2Ri (by decide)).trans ((u2Ri (by decide)).trans ((u2Ri (by decide)).trans ((u2Ri (by decide)).trans ((u2Ri (by decide)).trans ((u2Ri (by decide)).trans ((u2Ri (by decide)).trans ((u2Ri (by decide)).trans ((u2Ri (by decide)).trans ((u2Ri (by decide)).trans ((u2Ri (by decide)).trans ((u2Ri (by decide)).trans ((u2Ri (by decide)).trans ((u2Ri (by decide)).trans ((u2Ri (by decide)).trans u2Re)))))))))))))))))))) dX12_init_231 ?_
  refine jr_bipush dX12_init_234 kbp_72 ?_
  refine jr_iload_n dX12_init_236 rfl rfl ?_
  refine jr_iadd dX12_init_237 ?_
  rw [show (72 : Int32) + (13 : Int32) = (85 : Int32) by decide]
  refine jr_bipush dX12_init_238 kbp_10 ?_
  refine jr_iastore nn_85 rfl dX12_init_240 vin_85_125 ?_
  have hz := hz.u2 (i := 85) (x := (10 : Int32)) (show 72 < 93 by decide)
  refine jr_iinc (v := (14 : Int32)) dX12_init_241 rfl (by decide) (by decide) rfl ?_
  refine jr_goto dX12_init_244 (tgt := 206) (by decide) ?_
  refine jr_iload_n dX12_init_206 rfl rfl ?_
  refine jr_bipush dX12_init_207 kbp_24 ?_
  refine jr_icmp_ge dX12_init_209 (tgt := 247) (by decide) (fun c => absurd c (by decide)) (fun _ => ?_)
  refine jr_aload_n dX12_init_212 rfl rfl ?_
  refine jr_geta ff_X12_11 rfl ((u2Ri (by decide)).trans ((u2Ri (by decide)).trans ((u2Ri (by decide)).trans ((u2Ri (by decide)).trans ((u2Ri (by decide)).trans ((u2Ri (by decide)).trans ((u2Ri (by decide)).trans ((u2Ri (by decide)).trans ((u2Ri (by decide)).trans ((u2Ri (by decide)).trans ((u2Ri (by decide)).trans ((u2Ri (by decide)).trans ((u2Ri (by decide)).trans ((u2Ri (by decide)).trans ((u2Ri (by decide)).trans ((u2Ri (by decide)).trans ((u2Ri (by decide)).trans ((u2Ri (by decide)).trans ((u2Ri (by decide)).trans ((u2Ri (by decide)).trans u2Re)))))))))))))))))))) dX12_init_213 ?_
  refine jr_iload_n dX12_init_216 rfl rfl ?_
  refine jr_bipush dX12_init_217 kbp_30 ?_
  refine jr_iastore nn_14 rfl dX12_init_219 vin_14_125 ?_
  have hz := hz.u2 (i := 14) (x := (30 : Int32)) (show 72 < 93 by decide)
  refine jr_aload_n dX12_init_220 rfl rfl ?_
  refine jr_geta ff_X12_11 rfl ((u2Ri (by decide)).trans ((u2Ri (by decide)).trans ((u2Ri (by decide)).trans ((u2Ri (by decide)).trans ((u2Ri (by decide)).trans ((u2Ri (by decide)).trans ((u2Ri (by decide)).trans ((u2Ri (by decide)).trans ((u2Ri (by decide)).trans ((u2Ri (by decide)).trans ((u2Ri (by decide)).trans ((u2Ri (by decide)).trans ((u2Ri (by decide)).trans ((u2Ri (by decide)).trans ((u2Ri (by decide)).trans ((u2Ri (by decide)).trans ((u2Ri (by decide)).trans ((u2Ri (by decide)).trans ((u2Ri (by decide)).trans ((u2Ri (by decide)).trans u2Re)))))))))))))))))))) dX12_init_221 ?_
  refine jr_bipush dX12_init_224 kbp_24 ?_
  refine jr_iload_n dX12_init_226 rfl rfl ?_
  refine jr_iadd dX12_init_227 ?_
  rw [show (24 : Int32) + (14 : Int32) = (38 : Int32) by decide]
  refine jr_iconst dX12_init_228 kic_1 ?_
  refine jr_iastore nn_38 rfl dX12_init_229 vin_38_125 ?_
  have hz := hz.u2 (i := 38) (x := (1 : Int32)) (show 72 < 93 by decide)
  refine jr_aload_n dX12_init_230 rfl rfl ?_
  refine jr_geta ff_X12_11 rfl ((u2Ri (by decide)).trans ((u2Ri (by decide)).trans ((u2Ri (by decide)).trans ((u2Ri (by decide)).trans ((u2Ri (by decide)).trans ((u2Ri (by decide)).trans ((u2Ri (by decide)).trans ((u2Ri (by decide)).trans ((u2Ri (by decide)).trans ((u2Ri (by decide)).trans ((u2Ri (by decide)).trans ((u2Ri (by decide)).trans ((u2Ri (by decide)).trans ((u2Ri (by decide)).trans ((u2Ri (by decide)).trans ((u2Ri (by decide)).trans ((u2Ri (by decide)).trans ((u2Ri (by decide)).trans ((u2Ri (by decide)).trans ((u2Ri (by decide)).trans u2Re)))))))))))))))))))) dX12_init_231 ?_
  refine jr_bipush dX12_init_234 kbp_72 ?_
  refine jr_iload_n dX12_init_236 rfl rfl ?_
  refine jr_iadd dX12_init_237 ?_
  rw [show (72 : Int32) + (14 : Int32) = (86 : Int32) by decide]
  refine jr_bipush dX12_init_238 kbp_10 ?_
  refine jr_iastore nn_86 rfl dX12_init_240 vin_86_125 ?_
  have hz := hz.u2 (i := 86) (x := (10 : Int32)) (show 72 < 93 by decide)
  refine jr_iinc (v := (15 : Int32)) dX12_init_241 rfl (by decide) (by decide) rfl ?_
  refine jr_goto dX12_init_244 (tgt := 206) (by decide) ?_
  refine jr_iload_n dX12_init_206 rfl rfl ?_
  refine jr_bipush dX12_init_207 kbp_24 ?_
  refine jr_icmp_ge dX12_init_209 (tgt := 247) (by decide) (fun c => absurd c (by decide)) (fun _ => ?_)
  refine jr_aload_n dX12_init_212 rfl rfl ?_
  refine jr_geta ff_X12_11 rfl ((u2Ri (by decide)).trans ((u2Ri (by decide)).trans ((u2Ri (by decide)).trans ((u2Ri (by decide)).trans ((u2Ri (by decide)).trans ((u2Ri (by decide)).trans ((u2Ri (by decide)).trans ((u2Ri (by decide)).trans ((u2Ri (by decide)).trans ((u2Ri (by decide)).trans ((u2Ri (by decide)).trans ((u2Ri (by decide)).trans ((u2Ri (by decide)).trans ((u2Ri (by decide)).trans ((u2Ri (by decide)).trans ((u2Ri (by decide)).trans ((u2Ri (by decide)).trans ((u2Ri (by decide)).trans ((u2Ri (by decide)).trans ((u2Ri (by decide)).trans u2Re)))))))))))))))))))) dX12_init_213 ?_
  refine jr_iload_n dX12_init_216 rfl rfl ?_
  refine jr_bipush dX12_init_217 kbp_30 ?_
  refine jr_iastore nn_15 rfl dX12_init_219 vin_15_125 ?_
  have hz := hz.u2 (i := 15) (x := (30 : Int32)) (show 72 < 93 by decide)
  refine jr_aload_n dX12_init_220 rfl rfl ?_
  refine jr_geta ff_X12_11 rfl ((u2Ri (by decide)).trans ((u2Ri (by decide)).trans ((u2Ri (by decide)).trans ((u2Ri (by decide)).trans ((u2Ri (by decide)).trans ((u2Ri (by decide)).trans ((u2Ri (by decide)).trans ((u2Ri (by decide)).trans ((u2Ri (by decide)).trans ((u2Ri (by decide)).trans ((u2Ri (by decide)).trans ((u2Ri (by decide)).trans ((u2Ri (by decide)).trans ((u2Ri (by decide)).trans ((u2Ri (by decide)).trans ((u2Ri (by decide)).trans ((u2Ri (by decide)).trans ((u2Ri (by decide)).trans ((u2Ri (by decide)).trans ((u2Ri (by decide)).trans u2Re)))))))))))))))))))) dX12_init_221 ?_
  refine jr_bipush dX12_init_224 kbp_24 ?_
  refine jr_iload_n dX12_init_226 rfl rfl ?_
  refine jr_iadd dX12_init_227 ?_
  rw [show (24 : Int32) + (15 : Int32) = (39 : Int32) by decide]
  refine jr_iconst dX12_init_228 kic_1 ?_
  refine jr_iastore nn_39 rfl dX12_init_229 vin_39_125 ?_
  have hz := hz.u2 (i := 39) (x := (1 : Int32)) (show 72 < 93 by decide)
  refine jr_aload_n dX12_init_230 rfl rfl ?_
  refine jr_geta ff_X12_11 rfl ((u2Ri (by decide)).trans ((u2Ri (by decide)).trans ((u2Ri (by decide)).trans ((u2Ri (by decide)).trans ((u2Ri (by decide)).trans ((u2Ri (by decide)).trans ((u2Ri (by decide)).trans ((u2Ri (by decide)).trans ((u2Ri (by decide)).trans ((u2Ri (by decide)).trans ((u2Ri (by decide)).trans ((u2Ri (by decide)).trans ((u2Ri (by decide)).trans ((u2Ri (by decide)).trans ((u2Ri (by decide)).trans ((u2Ri (by decide)).trans ((u2Ri (by decide)).trans ((u2Ri (by decide)).trans ((u2Ri (by decide)).trans ((u2Ri (by decide)).trans u2Re)))))))))))))))))))) dX12_init_231 ?_
  refine jr_bipush dX12_init_234 kbp_72 ?_
  refine jr_iload_n dX12_init_236 rfl rfl ?_
  refine jr_iadd dX12_init_237 ?_
  rw [show (72 : Int32) + (15 : Int32) = (87 : Int32) by decide]
  refine jr_bipush dX12_init_238 kbp_10 ?_
  refine jr_iastore nn_87 rfl dX12_init_240 vin_87_125 ?_
  have hz := hz.u2 (i := 87) (x := (10 : Int32)) (show 72 < 93 by decide)
  refine jr_iinc (v := (16 : Int32)) dX12_init_241 rfl (by decide) (by decide) rfl ?_
  refine jr_goto dX12_init_244 (tgt := 206) (by decide) ?_
  refine jr_iload_n dX12_init_206 rfl rfl ?_
  refine jr_bipush dX12_init_207 kbp_24 ?_
  refine jr_icmp_ge dX12_init_209 (tgt := 247) (by decide) (fun c => absurd c (by decide)) (fun _ => ?_)
  refine jr_aload_n dX12_init_212 rfl rfl ?_
  refine jr_geta ff_X12_11 rfl ((u2Ri (by decide)).trans ((u2Ri (by decide)).trans ((u2Ri (by decide)).trans ((u2Ri (by decide)).trans ((u2Ri (by decide)).trans ((u2Ri (by decide)).trans ((u2Ri (by decide)).trans ((u2Ri (by decide)).trans ((u2Ri (by decide)).trans ((u2Ri (by decide)).trans ((u2Ri (by decide)).trans ((u2Ri (by decide)).trans ((u2Ri (by decide)).trans ((u2Ri (by decide)).trans ((u2Ri (by decide)).trans ((u2Ri (by decide)).trans ((u2Ri (by decide)).trans ((u2Ri (by decide)).trans ((u2Ri (by decide)).trans ((u2Ri (by decide)).trans u2Re)))))))))))))))))))) dX12_init_213 ?_
  refine jr_iload_n dX12_init_216 rfl rfl ?_
  refine jr_bipush dX12_init_217 kbp_30 ?_
  refine jr_iastore nn_16 rfl dX12_init_219 vin_16_125 ?_
  have hz := hz.u2 (i := 16) (x := (30 : Int32)) (show 72 < 93 by decide)
  refine jr_aload_n dX12_init_220 rfl rfl ?_
  refine jr_geta ff_X12_11 rfl ((u2Ri (by decide)).trans ((u2Ri (by decide)).trans ((u2Ri (by decide)).trans ((u2Ri (by decide)).trans ((u2Ri (by decide)).trans ((u2Ri (by decide)).trans ((u2Ri (by decide)).trans ((u2Ri (by decide)).trans ((u2Ri (by decide)).trans ((u2Ri (by decide)).trans ((u2Ri (by decide)).trans ((u2Ri (by decide)).trans ((u2Ri (by decide)).trans ((u2Ri (by decide)).trans ((u2Ri (by decide)).trans ((u2Ri (by decide)).trans ((u2Ri (by decide)).trans ((u2Ri (by decide)).trans ((u2Ri (by decide)).trans ((u2Ri (by decide)).trans u2Re)))))))))))))))))))) dX12_init_221 ?_
  refine jr_bipush dX12_init_224 kbp_24 ?_
  refine jr_iload_n dX12_init_226 rfl rfl ?_
  refine jr_iadd dX12_init_227 ?_
  rw [show (24 : Int32) + (16 : Int32) = (40 : Int32) by decide]
  refine jr_iconst dX12_init_228 kic_1 ?_
  refine jr_iastore nn_40 rfl dX12_init_229 vin_40_125 ?_
  have hz := hz.u2 (i := 40) (x := (1 : Int32)) (show 72 < 93 by decide)
  refine jr_aload_n dX12_init_230 rfl rfl ?_
  refine jr_geta ff_X12_11 rfl ((u2Ri (by decide)).trans ((u2Ri (by decide)).trans ((u2Ri (by decide)).trans ((u2Ri (by decide)).trans ((u2Ri (by decide)).trans ((u2Ri (by decide)).trans ((u2Ri (by decide)).trans ((u2Ri (by decide)).trans ((u2Ri (by decide)).trans ((u2Ri (by decide)).trans ((u2Ri (by decide)).trans ((u2Ri (by decide)).trans ((u2Ri (by decide)).trans ((u2Ri (by decide)).trans ((u2Ri (by decide)).trans ((u2Ri (by decide)).trans ((u2Ri (by decide)).trans ((u2Ri (by decide)).trans ((u2Ri (by decide)).trans ((u2Ri (by decide)).trans u2Re)))))))))))))))))))) dX12_init_231 ?_
  refine jr_bipush dX12_init_234 kbp_72 ?_
  refine jr_iload_n dX12_init_236 rfl rfl ?_
  refine jr_iadd dX12_init_237 ?_
  rw [show (72 : Int32) + (16 : Int32) = (88 : Int32) by decide]
  refine jr_bipush dX12_init_238 kbp_10 ?_
  refine jr_iastore nn_88 rfl dX12_init_240 vin_88_125 ?_
  have hz := hz.u2 (i := 88) (x := (10 : Int32)) (show 72 < 93 by decide)
  refine jr_iinc (v := (17 : Int32)) dX12_init_241 rfl (by decide) (by decide) rfl ?_
  refine jr_goto dX12_init_244 (tgt := 206) (by decide) ?_
  refine jr_iload_n dX12_init_206 rfl rfl ?_
  refine jr_bipush dX12_init_207 kbp_24 ?_
  refine jr_icmp_ge dX12_init_209 (tgt := 247) (by decide) (fun c => absurd c (by decide)) (fun _ => ?_)
  refine jr_aload_n dX12_init_212 rfl rfl ?_
  refine jr_geta ff_X12_11 rfl ((u2Ri (by decide)).trans ((u2Ri (by decide)).trans ((u2Ri (by decide)).trans ((u2Ri (by decide)).trans ((u2Ri (by decide)).trans ((u2Ri (by decide)).trans ((u2Ri (by decide)).trans ((u2Ri (by decide)).trans ((u2Ri (by decide)).trans ((u2Ri (by decide)).trans ((u2Ri (by decide)).trans ((u2Ri (by decide)).trans ((u2Ri (by decide)).trans ((u2Ri (by decide)).trans ((u2Ri (by decide)).trans ((u2Ri (by decide)).trans ((u2Ri (by decide)).trans ((u2Ri (by decide)).trans ((u2Ri (by decide)).trans ((u2Ri (by decide)).trans u2Re)))))))))))))))))))) dX12_init_213 ?_
  refine jr_iload_n dX12_init_216 rfl rfl ?_
  refine jr_bipush dX12_init_217 kbp_30 ?_
  refine jr_iastore nn_17 rfl dX12_init_219 vin_17_125 ?_
  have hz := hz.u2 (i := 17) (x := (30 : Int32)) (show 72 < 93 by decide)
  refine jr_aload_n dX12_init_220 rfl rfl ?_
  refine jr_geta ff_X12_11 rfl ((u2Ri (by decide)).trans ((u2Ri (by decide)).trans ((u2Ri (by decide)).trans ((u2Ri (by decide)).trans ((u2Ri (by decide)).trans ((u2Ri (by decide)).trans ((u2Ri (by decide)).trans ((u2Ri (by decide)).trans ((u2Ri (by decide)).trans ((u2Ri (by decide)).trans ((u2Ri (by decide)).trans ((u2Ri (by decide)).trans ((u2Ri (by decide)).trans ((u2Ri (by decide)).trans ((u2Ri (by decide)).trans ((u2Ri (by decide)).trans ((u2Ri (by decide)).trans ((u2Ri (by decide)).trans ((u2Ri (by decide)).trans ((u2Ri (by decide)).trans u2Re)))))))))))))))))))) dX12_init_221 ?_
  refine jr_bipush dX12_init_224 kbp_24 ?_
  refine jr_iload_n dX12_init_226 rfl rfl ?_
  refine jr_iadd dX12_init_227 ?_
  rw [show (24 : Int32) + (17 : Int32) = (41 : Int32) by decide]
  refine jr_iconst dX12_init_228 kic_1 ?_
  refine jr_iastore nn_41 rfl dX12_init_229 vin_41_125 ?_
  have hz := hz.u2 (i := 41) (x := (1 : Int32)) (show 72 < 93 by decide)
  refine jr_aload_n dX12_init_230 rfl rfl ?_
  refine jr_geta ff_X12_11 rfl ((u2Ri (by decide)).trans ((u2Ri (by decide)).trans ((u2Ri (by decide)).trans ((u2Ri (by decide)).trans ((u2Ri (by decide)).trans ((u2Ri (by decide)).trans ((u2Ri (by decide)).trans ((u2Ri (by decide)).trans ((u2Ri (by decide)).trans ((u2Ri (by decide)).trans ((u2Ri (by decide)).trans ((u2Ri (by decide)).trans ((u2Ri (by decide)).trans ((u2Ri (by decide)).trans ((u2Ri (by decide)).trans ((u2Ri (by decide)).trans ((u2Ri (by decide)).trans ((u2Ri (by decide)).trans ((u2Ri (by decide)).trans ((u2Ri (by decide)).trans u2Re)))))))))))))))))))) dX12_init_231 ?_
  refine jr_bipush dX12_init_234 kbp_72 ?_
  refine jr_iload_n dX12_init_236 rfl rfl ?_
  refine jr_iadd dX12_init_237 ?_
  rw [show (72 : Int32) + (17 : Int32) = (89 : Int32) by decide]
  refine jr_bipush dX12_init_238 kbp_10 ?_
  refine jr_iastore nn_89 rfl dX12_init_240 vin_89_125 ?_
  have hz := hz.u2 (i := 89) (x := (10 : Int32)) (show 72 < 93 by decide)
  refine jr_iinc (v := (18 : Int32)) dX12_init_241 rfl (by decide) (by decide) rfl ?_
  refine jr_goto dX12_init_244 (tgt := 206) (by decide) ?_
  refine jr_iload_n dX12_init_206 rfl rfl ?_
  refine jr_bipush dX12_init_207 kbp_24 ?_
  refine jr_icmp_ge dX12_init_209 (tgt := 247) (by decide) (fun c => absurd c (by decide)) (fun _ => ?_)
  refine jr_aload_n dX12_init_212 rfl rfl ?_
  refine jr_geta ff_X12_11 rfl ((u2Ri (by decide)).trans ((u2Ri (by decide)).trans ((u2Ri (by decide)).trans ((u2Ri (by decide)).trans ((u2Ri (by decide)).trans ((u2Ri (by decide)).trans ((u2Ri (by decide)).trans ((u2Ri (by decide)).trans ((u2Ri (by decide)).trans ((u2Ri (by decide)).trans ((u2Ri (by decide)).trans ((u2Ri (by decide)).trans ((u2Ri (by decide)).trans ((u2Ri (by decide)).trans ((u2Ri (by decide)).trans ((u2Ri (by decide)).trans ((u2Ri (by decide)).trans ((u2Ri (by decide)).trans ((u2Ri (by decide)).trans ((u2Ri (by decide)).trans u2Re)))))))))))))))))))) dX12_init_213 ?_
  refine jr_iload_n dX12_init_216 rfl rfl ?_
  refine jr_bipush dX12_init_217 kbp_30 ?_
  refine jr_iastore nn_18 rfl dX12_init_219 vin_18_125 ?_
  have hz := hz.u2 (i := 18) (x := (30 : Int32)) (show 72 < 93 by decide)
  refine jr_aload_n dX12_init_220 rfl rfl ?_
  refine jr_geta ff_X12_11 rfl ((u2Ri (by decide)).trans ((u2Ri (by decide)).trans ((u2Ri (by decide)).trans ((u2Ri (by decide)).trans ((u2Ri (by decide)).trans ((u2Ri (by decide)).trans ((u2Ri (by decide)).trans ((u2Ri (by decide)).trans ((u2Ri (by decide)).trans ((u2Ri (by decide)).trans ((u2Ri (by decide)).trans ((u2Ri (by decide)).trans ((u2Ri (by decide)).trans ((u2Ri (by decide)).trans ((u2Ri (by decide)).trans ((u2Ri (by decide)).trans ((u2Ri (by decide)).trans ((u2Ri (by decide)).trans ((u2Ri (by decide)).trans ((u2Ri (by decide)).trans u2Re)))))))))))))))))))) dX12_init_221 ?_
  refine jr_bipush dX12_init_224 kbp_24 ?_
  refine jr_iload_n dX12_init_226 rfl rfl ?_
  refine jr_iadd dX12_init_227 ?_
  rw [show (24 : Int32) + (18 : Int32) = (42 : Int32) by decide]
  refine jr_iconst dX12_init_228 kic_1 ?_
  refine jr_iastore nn_42 rfl dX12_init_229 vin_42_125 ?_
  have hz := hz.u2 (i := 42) (x := (1 : Int32)) (show 72 < 93 by decide)
  refine jr_aload_n dX12_init_230 rfl rfl ?_
  refine jr_geta ff_X12_11 rfl ((u2Ri (by decide)).trans ((u2Ri (by decide)).trans ((u2Ri (by decide)).trans ((u2Ri (by decide)).trans ((u2Ri (by decide)).trans ((u2Ri (by decide)).trans ((u2Ri (by decide)).trans ((u2Ri (by decide)).trans ((u2Ri (by decide)).trans ((u2Ri (by decide)).trans ((u2Ri (by decide)).trans ((u2Ri (by decide)).trans ((u2Ri (by decide)).trans ((u2Ri (by decide)).trans ((u2Ri (by decide)).trans ((u2Ri (by decide)).trans ((u2Ri (by decide)).trans ((u2Ri (by decide)).trans ((u2Ri (by decide)).trans ((u2Ri (by decide)).trans u2Re)))))))))))))))))))) dX12_init_231 ?_
  refine jr_bipush dX12_init_234 kbp_72 ?_
  refine jr_iload_n dX12_init_236 rfl rfl ?_
  refine jr_iadd dX12_init_237 ?_
  rw [show (72 : Int32) + (18 : Int32) = (90 : Int32) by decide]
  refine jr_bipush dX12_init_238 kbp_10 ?_
  refine jr_iastore nn_90 rfl dX12_init_240 vin_90_125 ?_
  have hz := hz.u2 (i := 90) (x := (10 : Int32)) (show 72 < 93 by decide)
  refine jr_iinc (v := (19 : Int32)) dX12_init_241 rfl (by decide) (by decide) rfl ?_
  refine jr_goto dX12_init_244 (tgt := 206) (by decide) ?_
  refine jr_iload_n dX12_init_206 rfl rfl ?_
  refine jr_bipush dX12_init_207 kbp_24 ?_
  refine jr_icmp_ge dX12_init_209 (tgt := 247) (by decide) (fun c => absurd c (by decide)) (fun _ => ?_)
  refine jr_aload_n dX12_init_212 rfl rfl ?_
  refine jr_geta ff_X12_11 rfl ((u2Ri (by decide)).trans ((u2Ri (by decide)).trans ((u2Ri (by decide)).trans ((u2Ri (by decide)).trans ((u2Ri (by decide)).trans ((u2Ri (by decide)).trans ((u2Ri (by decide)).trans ((u2Ri (by decide)).trans ((u2Ri (by decide)).trans ((u2Ri (by decide)).trans ((u2Ri (by decide)).trans ((u2Ri (by decide)).trans ((u2Ri (by decide)).trans ((u2Ri (by decide)).trans ((u2Ri (by decide)).trans ((u2Ri (by decide)).trans ((u2Ri (by decide)).trans ((u2Ri (by decide)).trans ((u2Ri (by decide)).trans ((u2Ri (by decide)).trans u2Re)))))))))))))))))))) dX12_init_213 ?_
  refine jr_iload_n dX12_init_216 rfl rfl ?_
  refine jr_bipush dX12_init_217 kbp_30 ?_
  refine jr_iastore nn_19 rfl dX12_init_219 vin_19_125 ?_
  have hz := hz.u2 (i := 19) (x := (30 : Int32)) (show 72 < 93 by decide)
  refine jr_aload_n dX12_init_220 rfl rfl ?_
  refine jr_geta ff_X12_11 rfl ((u2Ri (by decide)).trans ((u2Ri (by decide)).trans ((u2Ri (by decide)).trans ((u2Ri (by decide)).trans ((u2Ri (by decide)).trans ((u2Ri (by decide)).trans ((u2Ri (by decide)).trans ((u2Ri (by decide)).trans ((u2Ri (by decide)).trans ((u2Ri (by decide)).trans ((u2Ri (by decide)).trans ((u2Ri (by decide)).trans ((u2Ri (by decide)).trans ((u2Ri (by decide)).trans ((u2Ri (by decide)).trans ((u2Ri (by decide)).trans ((u2Ri (by decide)).trans ((u2Ri (by decide)).trans ((u2Ri (by decide)).trans ((u2Ri (by decide)).trans u2Re)))))))))))))))))))) dX12_init_221 ?_
  refine jr_bipush dX12_init_224 kbp_24 ?_
  refine jr_iload_n dX12_init_226 rfl rfl ?_
  refine jr_iadd dX12_init_227 ?_
  rw [show (24 : Int32) + (19 : Int32) = (43 : Int32) by decide]
  refine jr_iconst dX12_init_228 kic_1 ?_
  refine jr_iastore nn_43 rfl dX12_init_229 vin_43_125 ?_
  have hz := hz.u2 (i := 43) (x := (1 : Int32)) (show 72 < 93 by decide)
  refine jr_aload_n dX12_init_230 rfl rfl ?_
  refine jr_geta ff_X12_11 rfl ((u2Ri (by decide)).trans ((u2Ri (by decide)).trans ((u2Ri (by decide)).trans ((u2Ri (by decide)).trans ((u2Ri (by decide)).trans ((u2Ri (by decide)).trans ((u2Ri (by decide)).trans ((u2Ri (by decide)).trans ((u2Ri (by decide)).trans ((u2Ri (by decide)).trans ((u2Ri (by decide)).trans ((u2Ri (by decide)).trans ((u2Ri (by decide)).trans ((u2Ri (by decide)).trans ((u2Ri (by decide)).trans ((u2Ri (by decide)).trans ((u2Ri (by decide)).trans ((u2Ri (by decide)).trans ((u2Ri (by decide)).trans ((u2Ri (by decide)).trans u2Re)))))))))))))))))))) dX12_init_231 ?_
  refine jr_bipush dX12_init_234 kbp_72 ?_
  refine jr_iload_n dX12_init_236 rfl rfl ?_
  refine jr_iadd dX12_init_237 ?_
  rw [show (72 : Int32) + (19 : Int32) = (91 : Int32) by decide]
  refine jr_bipush dX12_init_238 kbp_10 ?_
  refine jr_iastore nn_91 rfl dX12_init_240 vin_91_125 ?_
  have hz := hz.u2 (i := 91) (x := (10 : Int32)) (show 72 < 93 by decide)
  refine jr_iinc (v := (20 : Int32)) dX12_init_241 rfl (by decide) (by decide) rfl ?_
  refine jr_goto dX12_init_244 (tgt := 206) (by decide) ?_
  refine jr_iload_n dX12_init_206 rfl rfl ?_
  refine jr_bipush dX12_init_207 kbp_24 ?_
  refine jr_icmp_ge dX12_init_209 (tgt := 247) (by decide) (fun c => absurd c (by decide)) (fun _ => ?_)
  refine jr_aload_n dX12_init_212 rfl rfl ?_
  refine jr_geta ff_X12_11 rfl ((u2Ri (by decide)).trans ((u2Ri (by decide)).trans ((u2Ri (by decide)).trans ((u2Ri (by decide)).trans ((u2Ri (by decide)).trans ((u2Ri (by decide)).trans ((u2Ri (by decide)).trans ((u2Ri (by decide)).trans ((u2Ri (by decide)).trans ((u2Ri (by decide)).trans ((u2Ri (by decide)).trans ((u2Ri (by decide)).trans ((u2Ri (by decide)).trans ((u2Ri (by decide)).trans ((u2Ri (by decide)).trans ((u2Ri (by decide)).trans ((u2Ri (by decide)).trans ((u2Ri (by decide)).trans ((u2Ri (by decide)).trans ((u2Ri (by decide)).trans u2Re)))))))))))))))))))) dX12_init_213 ?_
  refine jr_iload_n dX12_init_216 rfl rfl ?_
  refine jr_bipush dX12_init_217 kbp_30 ?_
  refine jr_iastore nn_20 rfl dX12_init_219 vin_20_125 ?_
  have hz := hz.u2 (i := 20) (x := (30 : Int32)) (show 72 < 93 by decide)
  refine jr_aload_n dX12_init_220 rfl rfl ?_
  refine jr_geta ff_X12_11 rfl ((u2Ri (by decide)).trans ((u2Ri (by decide)).trans ((u2Ri (by decide)).trans ((u2Ri (by decide)).trans ((u2Ri (by decide)).trans ((u2Ri (by decide)).trans ((u2Ri (by decide)).trans ((u2Ri (by decide)).trans ((u2Ri (by decide)).trans ((u2Ri (by decide)).trans ((u2Ri (by decide)).trans ((u2Ri (by decide)).trans ((u2Ri (by decide)).trans ((u2Ri (by decide)).trans ((u2Ri (by decide)).trans ((u2Ri (by decide)).trans ((u2Ri (by decide)).trans ((u2Ri (by decide)).trans ((u2Ri (by decide)).trans ((u2Ri (by decide)).trans u2Re)))))))))))))))))))) dX12_init_221 ?_
  refine jr_bipush dX12_init_224 kbp_24 ?_
  refine jr_iload_n dX12_init_226 rfl rfl ?_
  refine jr_iadd dX12_init_227 ?_
  rw [show (24 : Int32) + (20 : Int32) = (44 : Int32) by decide]
  refine jr_iconst dX12_init_228 kic_1 ?_
  refine jr_iastore nn_44 rfl dX12_init_229 vin_44_125 ?_
  have hz := hz.u2 (i := 44) (x := (1 : Int32)) (show 72 < 93 by decide)
  refine jr_aload_n dX12_init_230 rfl rfl ?_
  refine jr_geta ff_X12_11 rfl ((u2Ri (by decide)).trans ((u2Ri (by decide)).trans ((u2Ri (by decide)).trans ((u2Ri (by decide)).trans ((u2Ri (by decide)).trans ((u2Ri (by decide)).trans ((u2Ri (by decide)).trans ((u2Ri (by decide)).trans ((u2Ri (by decide)).trans ((u2Ri (by decide)).trans ((u2Ri (by decide)).trans ((u2Ri (by decide)).trans ((u2Ri (by decide)).trans ((u2Ri (by decide)).trans ((u2Ri (by decide)).trans ((u2Ri (by decide)).trans ((u2Ri (by decide)).trans ((u2Ri (by decide)).trans ((u2Ri (by decide)).trans ((u2Ri (by decide)).trans u2Re)))))))))))))))))))) dX12_init_231 ?_
  refine jr_bipush dX12_init_234 kbp_72 ?_
  refine jr_iload_n dX12_init_236 rfl rfl ?_
  refine jr_iadd dX12_init_237 ?_
  rw [show (72 : Int32) + (20 : Int32) = (92 : Int32) by decide]
  refine jr_bipush dX12_init_238 kbp_10 ?_
  refine jr_iastore nn_92 rfl dX12_init_240 vin_92_125 ?_
  have hz := hz.u2 (i := 92) (x := (10 : Int32)) (show 72 < 93 by decide)
  refine jr_iinc (v := (21 : Int32)) dX12_init_241 rfl (by decide) (by decide) rfl ?_
  refine jr_goto dX12_init_244 (tgt := 206) (by decide) ?_
  refine jr_iload_n dX12_init_206 rfl rfl ?_
  refine jr_bipush dX12_init_207 kbp_24 ?_
  refine jr_icmp_ge dX12_init_209 (tgt := 247) (by decide) (fun c => absurd c (by decide)) (fun _ => ?_)
  refine jr_aload_n dX12_init_212 rfl rfl ?_
  refine jr_geta ff_X12_11 rfl ((u2Ri (by decide)).trans ((u2Ri (by decide)).trans ((u2Ri (by decide)).trans ((u2Ri (by decide)).trans ((u2Ri (by decide)).trans ((u2Ri (by decide)).trans ((u2Ri (by decide)).trans ((u2Ri (by decide)).trans ((u2Ri (by decide)).trans ((u2Ri (by decide)).trans ((u2Ri (by decide)).trans ((u2Ri (by decide)).trans ((u2Ri (by decide)).trans ((u2Ri (by decide)).trans ((u2Ri (by decide)).trans ((u2Ri (by decide)).trans ((u2Ri (by decide)).trans ((u2Ri (by decide)).trans ((u2Ri (by decide)).trans ((u2Ri (by decide)).trans u2Re)))))))))))))))))))) dX12_init_213 ?_
  refine jr_iload_n dX12_init_216 rfl rfl ?_
  refine jr_bipush dX12_init_217 kbp_30 ?_
  refine jr_iastore nn_21 rfl dX12_init_219 vin_21_125 ?_
  have hz := hz.u2 (i := 21) (x := (30 : Int32)) (show 72 < 93 by decide)
  refine jr_aload_n dX12_init_220 rfl rfl ?_
  refine jr_geta ff_X12_11 rfl ((u2Ri (by decide)).trans ((u2Ri (by decide)).trans ((u2Ri (by decide)).trans ((u2Ri (by decide)).trans ((u2Ri (by decide)).trans ((u2Ri (by decide)).trans ((u2Ri (by decide)).trans ((u2Ri (by decide)).trans ((u2Ri (by decide)).trans ((u2Ri (by decide)).trans ((u2Ri (by decide)).trans ((u2Ri (by decide)).trans ((u2Ri (by decide)).trans ((u2Ri (by decide)).trans ((u2Ri (by decide)).trans ((u2Ri (by decide)).trans ((u2Ri (by decide)).trans ((u2Ri (by decide)).trans ((u2Ri (by decide)).trans ((u2Ri (by decide)).trans u2Re)))))))))))))))))))) dX12_init_221 ?_
  refine jr_bipush dX12_init_224 kbp_24 ?_
  refine jr_iload_n dX12_init_226 rfl rfl ?_
  refine jr_iadd dX12_init_227 ?_
  rw [show (24 : Int32) + (21 : Int32) = (45 : Int32) by decide]
  refine jr_iconst dX12_init_228 kic_1 ?_
  refine jr_iastore nn_45 rfl dX12_init_229 vin_45_125 ?_
  have hz := hz.u2 (i := 45) (x := (1 : Int32)) (show 72 < 93 by decide)
  refine jr_aload_n dX12_init_230 rfl rfl ?_
  refine jr_geta ff_X12_11 rfl ((u2Ri (by decide)).trans ((u2Ri (by decide)).trans ((u2Ri (by decide)).trans ((u2Ri (by decide)).trans ((u2Ri (by decide)).trans ((u2Ri (by decide)).trans ((u2Ri (by decide)).trans ((u2Ri (by decide)).trans ((u2Ri (by decide)).trans ((u2Ri (by decide)).trans ((u2Ri (by decide)).trans ((u2Ri (by decide)).trans ((u2Ri (by decide)).trans ((u2Ri (by decide)).trans ((u2Ri (by decide)).trans ((u2Ri (by decide)).trans ((u2Ri (by decide)).trans ((u2Ri (by decide)).trans ((u2Ri (by decide)).trans ((u2Ri (by decide)).trans u2Re)))))))))))))))))))) dX12_init_231 ?_
  refine jr_bipush dX12_init_234 kbp_72 ?_
  refine jr_iload_n dX12_init_236 rfl rfl ?_
  refine jr_iadd dX12_init_237 ?_
  rw [show (72 : Int32) + (21 : Int32) = (93 : Int32) by decide]
  refine jr_bipush dX12_init_238 kbp_10 ?_
  refine jr_iastore nn_93 rfl dX12_init_240 vin_93_125 ?_
  have hz := hz.u2 (i := 93) (x := (10 : Int32)) (show 72 < 93 by decide)
  refine jr_iinc (v := (22 : Int32)) dX12_init_241 rfl (by decide) (by decide) rfl ?_
  refine jr_goto dX12_init_244 (tgt := 206) (by decide) ?_
  refine jr_iload_n dX12_init_206 rfl rfl ?_
  refine jr_bipush dX12_init_207 kbp_24 ?_
  refine jr_icmp_ge dX12_init_209 (tgt := 247) (by decide) (fun c => absurd c (by decide)) (fun _ => ?_)
  refine jr_aload_n dX12_init_212 rfl rfl ?_
  refine jr_geta ff_X12_11 rfl ((u2Ri (by decide)).trans ((u2Ri (by decide)).trans ((u2Ri (by decide)).trans ((u2Ri (by decide)).trans ((u2Ri (by decide)).trans ((u2Ri (by decide)).trans ((u2Ri (by decide)).trans ((u2Ri (by decide)).trans ((u2Ri (by decide)).trans ((u2Ri (by decide)).trans ((u2Ri (by decide)).trans ((u2Ri (by decide)).trans ((u2Ri (by decide)).trans ((u2Ri (by decide)).trans ((u2Ri (by decide)).trans ((u2Ri (by decide)).trans ((u2Ri (by decide)).trans ((u2Ri (by decide)).trans ((u2Ri (by decide)).trans ((u2Ri (by decide)).trans u2Re)))))))))))))))))))) dX12_init_213 ?_
  refine jr_iload_n dX12_init_216 rfl rfl ?_
  refine jr_bipush dX12_init_217 kbp_30 ?_
  refine jr_iastore nn_22 rfl dX12_init_219 vin_22_125 ?_
  have hz := hz.u2 (i := 22) (x := (30 : Int32)) (show 72 < 93 by decide)
  refine jr_aload_n dX12_init_220 rfl rfl ?_
  refine jr_geta ff_X12_11 rfl ((u2Ri (by decide)).trans ((u2Ri (by decide)).trans ((u2Ri (by decide)).trans ((u2Ri (by decide)).trans ((u2Ri (by decide)).trans ((u2Ri (by decide)).trans ((u2Ri (by decide)).trans ((u2Ri (by decide)).trans ((u2Ri (by decide)).trans ((u2Ri (by decide)).trans ((u2Ri (by decide)).trans ((u2Ri (by decide)).trans ((u2Ri (by decide)).trans ((u2Ri (by decide)).trans ((u2Ri (by decide)).trans ((u2Ri (by decide)).trans ((u2Ri (by decide)).trans ((u2Ri (by decide)).trans ((u2Ri (by decide)).trans ((u2Ri (by decide)).trans u2Re)))))))))))))))))))) dX12_init_221 ?_
  refine jr_bipush dX12_init_224 kbp_24 ?_
  refine jr_iload_n dX12_init_226 rfl rfl ?_
  refine jr_iadd dX12_init_227 ?_
  rw [show (24 : Int32) + (22 : Int32) = (46 : Int32) by decide]
  refine jr_iconst dX12_init_228 kic_1 ?_
  refine jr_iastore nn_46 rfl dX12_init_229 vin_46_125 ?_
  have hz := hz.u2 (i := 46) (x := (1 : Int32)) (show 72 < 93 by decide)
  refine jr_aload_n dX12_init_230 rfl rfl ?_
  refine jr_geta ff_X12_11 rfl ((u2Ri (by decide)).trans ((u2Ri (by decide)).trans ((u2Ri (by decide)).trans ((u2Ri (by decide)).trans ((u2Ri (by decide)).trans ((u2Ri (by decide)).trans ((u2Ri (by decide)).trans ((u2Ri (by decide)).trans ((u2Ri (by decide)).trans ((u2Ri (by decide)).trans ((u2Ri (by decide)).trans ((u2Ri (by decide)).trans ((u2Ri (by decide)).trans ((u2Ri (by decide)).trans ((u2Ri (by decide)).trans ((u2Ri (by decide)).trans ((u2Ri (by decide)).trans ((u2Ri (by decide)).trans ((u2Ri (by decide)).trans ((u2Ri (by decide)).trans u2Re)))))))))))))))))))) dX12_init_231 ?_
  refine jr_bipush dX12_init_234 kbp_72 ?_
  refine jr_iload_n dX12_init_236 rfl rfl ?_
  refine jr_iadd dX12_init_237 ?_
  rw [show (72 : Int32) + (22 : Int32) = (94 : Int32) by decide]
  refine jr_bipush dX12_init_238 kbp_10 ?_
  refine jr_iastore nn_94 rfl dX12_init_240 vin_94_125 ?_
  have hz := hz.u2 (i := 94) (x := (10 : Int32)) (show 72 < 93 by decide)
  refine jr_iinc (v := (23 : Int32)) dX12_init_241 rfl (by decide) (by decide) rfl ?_
  refine jr_goto dX12_init_244 (tgt := 206) (by decide) ?_
  refine jr_iload_n dX12_init_206 rfl rfl ?_
  refine jr_bipush dX12_init_207 kbp_24 ?_
  refine jr_icmp_ge dX12_init_209 (tgt := 247) (by decide) (fun c => absurd c (by decide)) (fun _ => ?_)
  refine jr_aload_n dX12_init_212 rfl rfl ?_
  refine jr_geta ff_X12_11 rfl ((u2Ri (by decide)).trans ((u2Ri (by decide)).trans ((u2Ri (by decide)).trans ((u2Ri (by decide)).trans ((u2Ri (by decide)).trans ((u2Ri (by decide)).trans ((u2Ri (by decide)).trans ((u2Ri (by decide)).trans ((u2Ri (by decide)).trans ((u2Ri (by decide)).trans ((u2Ri (by decide)).trans ((u2Ri (by decide)).trans ((u2Ri (by decide)).trans ((u2Ri (by decide)).trans ((u2Ri (by decide)).trans ((u2Ri (by decide)).trans ((u2Ri (by decide)).trans ((u2Ri (by decide)).trans ((u2Ri (by decide)).trans ((u2Ri (by decide)).trans u2Re)))))))))))))))))))) dX12_init_213 ?_
  refine jr_iload_n dX12_init_216 rfl rfl ?_
  refine jr_bipush dX12_init_217 kbp_30 ?_
  refine jr_iastore nn_23 rfl dX12_init_219 vin_23_125 ?_
  have hz := hz.u2 (i := 23) (x := (30 : Int32)) (show 72 < 93 by decide)
  refine jr_aload_n dX12_init_220 rfl rfl ?_
  refine jr_geta ff_X12_11 rfl ((u2Ri (by decide)).trans ((u2Ri (by decide)).trans ((u2Ri (by decide)).trans ((u2Ri (by decide)).trans ((u2Ri (by decide)).trans ((u2Ri (by decide)).trans ((u2Ri (by decide)).trans ((u2Ri (by decide)).trans ((u2Ri (by decide)).trans ((u2Ri (by decide)).trans ((u2Ri (by decide)).trans ((u2Ri (by decide)).trans ((u2Ri (by decide)).trans ((u2Ri (by decide)).trans ((u2Ri (by decide)).trans ((u2Ri (by decide)).trans ((u2Ri (by decide)).trans ((u2Ri (by decide)).trans ((u2Ri (by decide)).trans ((u2Ri (by decide)).trans u2Re)))))))))))))))))))) dX12_init_221 ?_
  refine jr_bipush dX12_init_224 kbp_24 ?_
  refine jr_iload_n dX12_init_226 rfl rfl ?_
  refine jr_iadd dX12_init_227 ?_
  rw [show (24 : Int32) + (23 : Int32) = (47 : Int32) by decide]
  refine jr_iconst dX12_init_228 kic_1 ?_
  refine jr_iastore nn_47 rfl dX12_init_229 vin_47_125 ?_
  have hz := hz.u2 (i := 47) (x := (1 : Int32)) (show 72 < 93 by decide)
  refine jr_aload_n dX12_init_230 rfl rfl ?_
  refine jr_geta ff_X12_11 rfl ((u2Ri (by decide)).trans ((u2Ri (by decide)).trans ((u2Ri (by decide)).trans ((u2Ri (by decide)).trans ((u2Ri (by decide)).trans ((u2Ri (by decide)).trans ((u2Ri (by decide)).trans ((u2Ri (by decide)).trans ((u2Ri (by decide)).trans ((u2Ri (by decide)).trans ((u2Ri (by decide)).trans ((u2Ri (by decide)).trans ((u2Ri (by decide)).trans ((u2Ri (by decide)).trans ((u2Ri (by decide)).trans ((u2Ri (by decide)).trans ((u2Ri (by decide)).trans ((u2Ri (by decide)).trans ((u2Ri (by decide)).trans ((u2Ri (by decide)).trans u2Re)))))))))))))))))))) dX12_init_231 ?_
  refine jr_bipush dX12_init_234 kbp_72 ?_
  refine jr_iload_n dX12_init_236 rfl rfl ?_
  refine jr_iadd dX12_init_237 ?_
  rw [show (72 : Int32) + (23 : Int32) = (95 : Int32) by decide]
  refine jr_bipush dX12_init_238 kbp_10 ?_
  refine jr_iastore nn_95 rfl dX12_init_240 vin_95_125 ?_
  have hz := hz.u2 (i := 95) (x := (10 : Int32)) (show 72 < 93 by decide)
  refine jr_iinc (v := (24 : Int32)) dX12_init_241 rfl (by decide) (by decide) rfl ?_
  refine jr_goto dX12_init_244 (tgt := 206) (by decide) ?_
  refine jr_iload_n dX12_init_206 rfl rfl ?_
  refine jr_bipush dX12_init_207 kbp_24 ?_
  refine jr_icmp_ge dX12_init_209 (tgt := 247) (by decide) (fun _ => ?_) (fun c => absurd (by decide) c)
  refine jr_aload_n dX12_init_247 rfl rfl ?_
  refine jr_geta ff_X12_11 rfl ((u2Ri (by decide)).trans ((u2Ri (by decide)).trans ((u2Ri (by decide)).trans ((u2Ri (by decide)).trans ((u2Ri (by decide)).trans ((u2Ri (by decide)).trans ((u2Ri (by decide)).trans ((u2Ri (by decide)).trans ((u2Ri (by decide)).trans ((u2Ri (by decide)).trans ((u2Ri (by decide)).trans ((u2Ri (by decide)).trans ((u2Ri (by decide)).trans ((u2Ri (by decide)).trans ((u2Ri (by decide)).trans ((u2Ri (by decide)).trans ((u2Ri (by decide)).trans ((u2Ri (by decide)).trans ((u2Ri (by decide)).trans ((u2Ri (by decide)).trans u2Re)))))))))))))))))))) dX12_init_248 ?_
  refine jr_bipush dX12_init_251 kbp_124 ?_
  refine jr_sipush dX12_init_253 ksp_999 ?_
  refine jr_iastore nn_124 rfl dX12_init_256 vin_124_125 ?_
  have hz := hz.u2 (i := 124) (x := (999 : Int32)) (show 72 < 93 by decide)
  refine jr_aload_n dX12_init_257 rfl rfl ?_
  refine jr_bipush dX12_init_258 kbp_m2 ?_
  refine jr_puti ff_X12_84 rfl dX12_init_260 ?_
  have hz := hz.u2 (i := 40) (x := (-2 : Int32)) (show 71 < 93 by decide)
  exact jr_return dX12_init_263 ⟨Or.inl ⟨rfl, rfl⟩, h⟩

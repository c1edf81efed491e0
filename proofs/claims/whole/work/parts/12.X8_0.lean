def wX8_found (G : jG) (l : Launch) (d : Nat) (x1 : Int32) (I : jS) (L : jL) (Q : Option Value → jS → jL → Prop) : Prop := if x1 < 0 then (Q (some (.int (-2 : Int32))) I L) else (if (7 : Int32) ≤ x1 then (Q (some (.int (-2 : Int32))) I L) else (vp_in x1 7 ∧ (Q (some (.int (I 50 x1.toNatClampNeg))) I L)))
set_option maxRecDepth 100000 in
set_option maxHeartbeats 4000000 in
theorem wX8_found_ok {G : jG} {l : Launch} {d : Nat} {Q : Option Value → jS → jL → Prop} {x1 : Int32} {I : jS} {L : jL} (h : wX8_found G l d x1 I L Q) : cM G l mX8_found (d + 1) [.ref 37, .int x1] I L Q := by
  rw [wX8_found] at h
  show jCall G l yX8_found cX8_found 2 (some .int) (d + 1) 0 0 _ (jKS, I, L, jR0) _
  refine jCall_of (n0 := 0) (ls := [some (.ref 37), some (.int x1)]) (by decide +kernel) rfl (Nat.le_of_ble_eq_true rfl) (jQm_of ?_)
  refine jr_iload_n dX8_found_0 rfl rfl ?_
  refine jr_if_lt dX8_found_1 (tgt := 19) (by decide) (fun c => ?_) (fun c => ?_)
  · rw [if_pos c] at h
    refine jr_bipush dX8_found_19 kbp_m2 ?_
    exact jr_ireturn dX8_found_21 ⟨Or.inr (Or.inl ⟨rfl, _, rfl⟩), _, _, rfl, h⟩
  · rw [if_neg c] at h
    refine jr_iload_n dX8_found_4 rfl rfl ?_
    refine jr_bipush dX8_found_5 kbp_7 ?_
    refine jr_icmp_ge dX8_found_7 (tgt := 19) (by decide) (fun c => ?_) (fun c => ?_)
    · rw [if_pos c] at h
      refine jr_bipush dX8_found_19 kbp_m2 ?_
      exact jr_ireturn dX8_found_21 ⟨Or.inr (Or.inl ⟨rfl, _, rfl⟩), _, _, rfl, h⟩
    · rw [if_neg c] at h
      refine jr_aload_n dX8_found_10 rfl rfl ?_
      refine jr_geta ff_X8_35 ks_37 rr_37_5 dX8_found_11 ?_
      refine jr_iload_n dX8_found_14 rfl rfl ?_
      obtain ⟨g1, h⟩ := h
      refine jv_iaload rfl rfl ks_50 dX8_found_15 g1 ?_
      refine jr_goto dX8_found_16 (tgt := 21) (by decide) ?_
      exact jr_ireturn dX8_found_21 ⟨Or.inr (Or.inl ⟨rfl, _, rfl⟩), _, _, rfl, h⟩
def wX8_mostOver (G : jG) (l : Launch) (d : Nat) (ic1 : Nat) (x2 : Int32) (I : jS) (L : jL) (Q : Option Value → jS → jL → Prop) : Prop := cV G l mX8_begin d [.ref 37, .ref ic1, .int (-1 : Int32)] I L (fun I1 L1 => (cV G l mX8_tryOrders d [.ref 37, .int x2, .int (0 : Int32), .int (0 : Int32), .int (0 : Int32)] I1 L1 (fun I2 L2 => (Q (some (.int (I2 37 6))) I2 L2))))
set_option maxRecDepth 100000 in
set_option maxHeartbeats 4000000 in
theorem wX8_mostOver_ok {G : jG} {l : Launch} {d : Nat} {ic1 : Nat} {Q : Option Value → jS → jL → Prop} (hic1 : isIce ic1) {x2 : Int32} {I : jS} {L : jL} (h : wX8_mostOver G l d ic1 x2 I L Q) : cM G l mX8_mostOver (d + 1) [.ref 37, .ref ic1, .int x2] I L Q := by
  rw [wX8_mostOver] at h
  show jCall G l yX8_mostOver cX8_mostOver 3 (some .int) (d + 1) 0 0 _ (jKS, I, L, jR0) _
  refine jCall_of (n0 := 0) (ls := [some (.ref 37), some (.ref ic1), some (.int x2)]) (by decide +kernel) rfl (Nat.le_of_ble_eq_true rfl) (jQm_of ?_)
  refine jr_aload_n dX8_mostOver_0 rfl rfl ?_
  refine jr_aload_n dX8_mostOver_1 rfl rfl ?_
  refine jr_iconst dX8_mostOver_2 kic_m1 ?_
  refine jr_callV (mc2 := 0) (mc := 0) (ms2 := 0) (ms := 0) vm_X8_42 (av := [.ref ic1, .int (-1 : Int32)]) (st := []) rfl rfl ks_37 (by decide) rfl (Nat.le_of_ble_eq_true rfl) dX8_mostOver_3 (cV_use (M := (yX8_begin, cX8_begin, 3, none)) h ?_)
  intro I1 L1 h
  refine jr_aload_n dX8_mostOver_6 rfl rfl ?_
  refine jr_iload_n dX8_mostOver_7 rfl rfl ?_
  refine jr_iconst dX8_mostOver_8 kic_0 ?_
  refine jr_iconst dX8_mostOver_9 kic_0 ?_
  refine jr_iconst dX8_mostOver_10 kic_0 ?_
  refine jr_callV (mc2 := 0) (mc := 0) (ms2 := 0) (ms := 0) vm_X8_46 (av := [.int x2, .int (0 : Int32), .int (0 : Int32), .int (0 : Int32)]) (st := []) rfl rfl ks_37 (by decide) rfl (Nat.le_of_ble_eq_true rfl) dX8_mostOver_11 (cV_use (M := (yX8_tryOrders, cX8_tryOrders, 8, none)) h ?_)
  intro I2 L2 h
  refine jr_aload_n dX8_mostOver_14 rfl rfl ?_
  refine jv_geti rfl ff_X8_38 ks_37 dX8_mostOver_15 ?_
  exact jr_ireturn dX8_mostOver_18 ⟨Or.inr (Or.inl ⟨rfl, _, rfl⟩), _, _, rfl, h⟩
def wX8_soonestMinute (G : jG) (l : Launch) (d : Nat) (ic1 : Nat) (x2 : Int32) (I : jS) (L : jL) (Q : Option Value → jS → jL → Prop) : Prop := cV G l mX8_begin d [.ref 37, .ref ic1, .int (1000000000 : Int32)] I L (fun I1 L1 => (cV G l mX8_tryWaiting d [.ref 37, .int x2, .int (0 : Int32), .int (0 : Int32)] I1 L1 (fun I2 L2 => (if (I2 37 6) = (1000000000 : Int32) then (Q (some (.int (-2 : Int32))) I2 L2) else (Q (some (.int (I2 37 6))) I2 L2)))))
set_option maxRecDepth 100000 in
set_option maxHeartbeats 4000000 in
theorem wX8_soonestMinute_ok {G : jG} {l : Launch} {d : Nat} {ic1 : Nat} {Q : Option Value → jS → jL → Prop} (hic1 : isIce ic1) {x2 : Int32} {I : jS} {L : jL} (h : wX8_soonestMinute G l d ic1 x2 I L Q) : cM G l mX8_soonestMinute (d + 1) [.ref 37, .ref ic1, .int x2] I L Q := by
  rw [wX8_soonestMinute] at h
  show jCall G l yX8_soonestMinute cX8_soonestMinute 3 (some .int) (d + 1) 0 0 _ (jKS, I, L, jR0) _
  refine jCall_of (n0 := 0) (ls := [some (.ref 37), some (.ref ic1), some (.int x2)]) (by decide +kernel) rfl (Nat.le_of_ble_eq_true rfl) (jQm_of ?_)
  refine jr_aload_n dX8_soonestMinute_0 rfl rfl ?_
  refine jr_aload_n dX8_soonestMinute_1 rfl rfl ?_
  refine jr_ldc ki_X8_50 dX8_soonestMinute_2 ?_
  refine jr_callV (mc2 := 0) (mc := 0) (ms2 := 0) (ms := 0) vm_X8_42 (av := [.ref ic1, .int (1000000000 : Int32)]) (st := []) rfl rfl ks_37 (by decide) rfl (Nat.le_of_ble_eq_true rfl) dX8_soonestMinute_4 (cV_use (M := (yX8_begin, cX8_begin, 3, none)) h ?_)
  intro I1 L1 h
  refine jr_aload_n dX8_soonestMinute_7 rfl rfl ?_
  refine jr_iload_n dX8_soonestMinute_8 rfl rfl ?_
  refine jr_iconst dX8_soonestMinute_9 kic_0 ?_
  refine jr_iconst dX8_soonestMinute_10 kic_0 ?_
  refine jr_callV (mc2 := 0) (mc := 0) (ms2 := 0) (ms := 0) vm_X8_51 (av := [.int x2, .int (0 : Int32), .int (0 : Int32)]) (st := []) rfl rfl ks_37 (by decide) rfl (Nat.le_of_ble_eq_true rfl) dX8_soonestMinute_11 (cV_use (M := (yX8_tryWaiting, cX8_tryWaiting, 7, none)) h ?_)
  intro I2 L2 h
  refine jr_aload_n dX8_soonestMinute_14 rfl rfl ?_
  refine jv_geti rfl ff_X8_38 ks_37 dX8_soonestMinute_15 ?_
  refine jr_ldc ki_X8_50 dX8_soonestMinute_18 ?_
  refine jr_icmp_ne dX8_soonestMinute_20 (tgt := 28) (by decide) (fun c => ?_) (fun c => ?_)
  · rw [if_neg c] at h
    refine jr_aload_n dX8_soonestMinute_28 rfl rfl ?_
    refine jv_geti rfl ff_X8_38 ks_37 dX8_soonestMinute_29 ?_
    exact jr_ireturn dX8_soonestMinute_32 ⟨Or.inr (Or.inl ⟨rfl, _, rfl⟩), _, _, rfl, h⟩
  · rw [if_pos c] at h
    refine jr_bipush dX8_soonestMinute_23 kbp_m2 ?_
    refine jr_goto dX8_soonestMinute_25 (tgt := 32) (by decide) ?_
    exact jr_ireturn dX8_soonestMinute_32 ⟨Or.inr (Or.inl ⟨rfl, _, rfl⟩), _, _, rfl, h⟩
def wX8_mostParted (G : jG) (l : Launch) (d : Nat) (ic1 : Nat) (I : jS) (L : jL) (Q : Option Value → jS → jL → Prop) : Prop := cV G l mX8_begin d [.ref 37, .ref ic1, .int (-1 : Int32)] I L (fun I1 L1 => (cV G l mX8_tryWays d [.ref 37, .int (0 : Int32), .int (0 : Int32)] I1 L1 (fun I2 L2 => (Q (some (.int (I2 37 6))) I2 L2))))
set_option maxRecDepth 100000 in
set_option maxHeartbeats 4000000 in
theorem wX8_mostParted_ok {G : jG} {l : Launch} {d : Nat} {ic1 : Nat} {Q : Option Value → jS → jL → Prop} (hic1 : isIce ic1) {I : jS} {L : jL} (h : wX8_mostParted G l d ic1 I L Q) : cM G l mX8_mostParted (d + 1) [.ref 37, .ref ic1] I L Q := by
  rw [wX8_mostParted] at h
  show jCall G l yX8_mostParted cX8_mostParted 2 (some .int) (d + 1) 0 0 _ (jKS, I, L, jR0) _
  refine jCall_of (n0 := 0) (ls := [some (.ref 37), some (.ref ic1)]) (by decide +kernel) rfl (Nat.le_of_ble_eq_true rfl) (jQm_of ?_)
  refine jr_aload_n dX8_mostParted_0 rfl rfl ?_
  refine jr_aload_n dX8_mostParted_1 rfl rfl ?_
  refine jr_iconst dX8_mostParted_2 kic_m1 ?_
  refine jr_callV (mc2 := 0) (mc := 0) (ms2 := 0) (ms := 0) vm_X8_42 (av := [.ref ic1, .int (-1 : Int32)]) (st := []) rfl rfl ks_37 (by decide) rfl (Nat.le_of_ble_eq_true rfl) dX8_mostParted_3 (cV_use (M := (yX8_begin, cX8_begin, 3, none)) h ?_)
  intro I1 L1 h
  refine jr_aload_n dX8_mostParted_6 rfl rfl ?_
  refine jr_iconst dX8_mostParted_7 kic_0 ?_
  refine jr_iconst dX8_mostParted_8 kic_0 ?_
  refine jr_callV (mc2 := 0) (mc := 0) (ms2 := 0) (ms := 0) vm_X8_55 (av := [.int (0 : Int32), .int (0 : Int32)]) (st := []) rfl rfl ks_37 (by decide) rfl (Nat.le_of_ble_eq_true rfl) dX8_mostParted_9 (cV_use (M := (yX8_tryWays, cX8_tryWays, 6, none)) h ?_)
  intro I2 L2 h
  refine jr_aload_n dX8_mostParted_12 rfl rfl ?_
  refine jv_geti rfl ff_X8_38 ks_37 dX8_mostParted_13 ?_
  exact jr_ireturn dX8_mostParted_16 ⟨Or.inr (Or.inl ⟨rfl, _, rfl⟩), _, _, rfl, h⟩
def wX8_begin (G : jG) (l : Launch) (d : Nat) (ic1 : Nat) (x2 : Int32) (I : jS) (L : jL) (Q : Option Value → jS → jL → Prop) : Prop := cV G l mX3_follow d [.ref 23, .ref 38, .ref ic1] I L (fun I1 L1 => (Q none (u2 I1 37 6 x2) L1))
set_option maxRecDepth 100000 in
set_option maxHeartbeats 4000000 in
theorem wX8_begin_ok {G : jG} {l : Launch} {d : Nat} {ic1 : Nat} {Q : Option Value → jS → jL → Prop} (hic1 : isIce ic1) {x2 : Int32} {I : jS} {L : jL} (h : wX8_begin G l d ic1 x2 I L Q) : cM G l mX8_begin (d + 1) [.ref 37, .ref ic1, .int x2] I L Q := by
  rw [wX8_begin] at h
  show jCall G l yX8_begin cX8_begin 3 (none) (d + 1) 0 0 _ (jKS, I, L, jR0) _
  refine jCall_of (n0 := 0) (ls := [some (.ref 37), some (.ref ic1), some (.int x2)]) (by decide +kernel) rfl (Nat.le_of_ble_eq_true rfl) (jQm_of ?_)
  refine jr_aload_n dX8_begin_0 rfl rfl ?_
  refine jr_geta ff_X8_15 ks_37 rr_37_1 dX8_begin_1 ?_
  refine jr_aload_n dX8_begin_4 rfl rfl ?_
  refine jr_geta ff_X8_22 ks_37 rr_37_2 dX8_begin_5 ?_
  refine jr_aload_n dX8_begin_8 rfl rfl ?_
  refine jr_callV (mc2 := 0) (mc := 0) (ms2 := 0) (ms := 0) vm_X8_59 (av := [.ref 38, .ref ic1]) (st := []) rfl rfl ks_23 (by decide) rfl (Nat.le_of_ble_eq_true rfl) dX8_begin_9 (cV_use (M := (yX3_follow, cX3_follow, 3, none)) h ?_)
  intro I1 L1 h
  refine jr_aload_n dX8_begin_12 rfl rfl ?_
  refine jr_iload_n dX8_begin_13 rfl rfl ?_
  refine jr_puti ff_X8_38 ks_37 dX8_begin_14 ?_
  exact jr_return dX8_begin_17 ⟨Or.inl ⟨rfl, rfl⟩, _, _, rfl, h⟩
def wX8_keepAs (G : jG) (l : Launch) (d : Nat) (x1 : Int32) (I : jS) (L : jL) (Q : Option Value → jS → jL → Prop) : Prop := jcok (0 : Int32) (0 : Int32) (7 : Int32) 7 7 ∧ (Q none (jcpy (u2 I 37 6 x1) 49 50 (0 : Int32) (0 : Int32) (7 : Int32)) L)
set_option maxRecDepth 100000 in
set_option maxHeartbeats 4000000 in
theorem wX8_keepAs_ok {G : jG} {l : Launch} {d : Nat} {Q : Option Value → jS → jL → Prop} {x1 : Int32} {I : jS} {L : jL} (h : wX8_keepAs G l d x1 I L Q) : cM G l mX8_keepAs (d + 1) [.ref 37, .int x1] I L Q := by
  rw [wX8_keepAs] at h
  show jCall G l yX8_keepAs cX8_keepAs 2 (none) (d + 1) 0 0 _ (jKS, I, L, jR0) _
  refine jCall_of (n0 := 0) (ls := [some (.ref 37), some (.int x1)]) (by decide +kernel) rfl (Nat.le_of_ble_eq_true rfl) (jQm_of ?_)
  refine jr_aload_n dX8_keepAs_0 rfl rfl ?_
  refine jr_iload_n dX8_keepAs_1 rfl rfl ?_
  refine jr_puti ff_X8_38 ks_37 dX8_keepAs_2 ?_
  refine jr_aload_n dX8_keepAs_5 rfl rfl ?_
  refine jr_geta ff_X8_31 ks_37 rr_37_4 dX8_keepAs_6 ?_
  refine jr_iconst dX8_keepAs_9 kic_0 ?_
  refine jr_aload_n dX8_keepAs_10 rfl rfl ?_
  refine jr_geta ff_X8_35 ks_37 rr_37_5 dX8_keepAs_11 ?_
  refine jr_iconst dX8_keepAs_14 kic_0 ?_
  refine jr_bipush dX8_keepAs_15 kbp_7 ?_
  obtain ⟨g1, h⟩ := h
  refine jr_copyi cw_X8_65 ks_49 ks_50 g1 (by decide) (Nat.le_of_ble_eq_true rfl) dX8_keepAs_17 ?_
  exact jr_return dX8_keepAs_20 ⟨Or.inl ⟨rfl, rfl⟩, _, _, rfl, h⟩
def wX8_save (G : jG) (l : Launch) (d : Nat) (x1 : Int32) (I : jS) (L : jL) (Q : Option Value → jS → jL → Prop) : Prop := vp_in x1 7 ∧ (jcok (0 : Int32) (0 : Int32) (24 : Int32) 24 24 ∧ (Q none (jcpy I 40 (42 + x1.toNatClampNeg) (0 : Int32) (0 : Int32) (24 : Int32)) L))
set_option maxRecDepth 100000 in
set_option maxHeartbeats 4000000 in
theorem wX8_save_ok {G : jG} {l : Launch} {d : Nat} {Q : Option Value → jS → jL → Prop} {x1 : Int32} {I : jS} {L : jL} (h : wX8_save G l d x1 I L Q) : cM G l mX8_save (d + 1) [.ref 37, .int x1] I L Q := by
  rw [wX8_save] at h
  show jCall G l yX8_save cX8_save 2 (none) (d + 1) 0 0 _ (jKS, I, L, jR0) _
  refine jCall_of (n0 := 0) (ls := [some (.ref 37), some (.int x1)]) (by decide +kernel) rfl (Nat.le_of_ble_eq_true rfl) (jQm_of ?_)
  refine jr_aload_n dX8_save_0 rfl rfl ?_
  refine jr_geta ff_X8_22 ks_37 rr_37_2 dX8_save_1 ?_
  refine jr_geta ff_X8_71 ks_38 rr_38_1 dX8_save_4 ?_
  refine jr_iconst dX8_save_7 kic_0 ?_
  refine jr_aload_n dX8_save_8 rfl rfl ?_
  refine jr_geta ff_X8_28 ks_37 rr_37_3 dX8_save_9 ?_
  refine jr_iload_n dX8_save_12 rfl rfl ?_
  obtain ⟨g1, h⟩ := h
  refine jr_aaload_i rfl ks_41 dX8_save_13 g1 (rr_row41 (jlt g1)) ?_
  refine jr_iconst dX8_save_14 kic_0 ?_
  refine jr_bipush dX8_save_15 kbp_24 ?_
  obtain ⟨g2, h⟩ := h
  refine jr_copyi cw_X8_65 ks_40 (ks_row41 (jlt g1)) g2 (by decide) (Nat.le_of_ble_eq_true rfl) dX8_save_17 ?_
  exact jr_return dX8_save_20 ⟨Or.inl ⟨rfl, rfl⟩, _, _, rfl, h⟩
def wX8_restore (G : jG) (l : Launch) (d : Nat) (x1 : Int32) (x2 : Int32) (I : jS) (L : jL) (Q : Option Value → jS → jL → Prop) : Prop := vp_in x1 7 ∧ (jcok (0 : Int32) (0 : Int32) (24 : Int32) 24 24 ∧ (Q none (u2 (jcpy I (42 + x1.toNatClampNeg) 40 (0 : Int32) (0 : Int32) (24 : Int32)) 38 2 x2) L))
set_option maxRecDepth 100000 in
set_option maxHeartbeats 4000000 in
theorem wX8_restore_ok {G : jG} {l : Launch} {d : Nat} {Q : Option Value → jS → jL → Prop} {x1 : Int32} {x2 : Int32} {I : jS} {L : jL} (h : wX8_restore G l d x1 x2 I L Q) : cM G l mX8_restore (d + 1) [.ref 37, .int x1, .int x2] I L Q := by
  rw [wX8_restore] at h
  show jCall G l yX8_restore cX8_restore 3 (none) (d + 1) 0 0 _ (jKS, I, L, jR0) _
  refine jCall_of (n0 := 0) (ls := [some (.ref 37), some (.int x1), some (.int x2)]) (by decide +kernel) rfl (Nat.le_of_ble_eq_true rfl) (jQm_of ?_)
  refine jr_aload_n dX8_restore_0 rfl rfl ?_
  refine jr_geta ff_X8_28 ks_37 rr_37_3 dX8_restore_1 ?_
  refine jr_iload_n dX8_restore_4 rfl rfl ?_
  obtain ⟨g1, h⟩ := h
  refine jr_aaload_i rfl ks_41 dX8_restore_5 g1 (rr_row41 (jlt g1)) ?_
  refine jr_iconst dX8_restore_6 kic_0 ?_
  refine jr_aload_n dX8_restore_7 rfl rfl ?_
  refine jr_geta ff_X8_22 ks_37 rr_37_2 dX8_restore_8 ?_
  refine jr_geta ff_X8_71 ks_38 rr_38_1 dX8_restore_11 ?_
  refine jr_iconst dX8_restore_14 kic_0 ?_
  refine jr_bipush dX8_restore_15 kbp_24 ?_
  obtain ⟨g2, h⟩ := h
  refine jr_copyi cw_X8_65 (ks_row41 (jlt g1)) ks_40 g2 (by decide) (Nat.le_of_ble_eq_true rfl) dX8_restore_17 ?_
  refine jr_aload_n dX8_restore_20 rfl rfl ?_
  refine jr_geta ff_X8_22 ks_37 rr_37_2 dX8_restore_21 ?_
  refine jr_iload_n dX8_restore_24 rfl rfl ?_
  refine jr_puti ff_X8_74 ks_38 dX8_restore_25 ?_
  exact jr_return dX8_restore_28 ⟨Or.inl ⟨rfl, rfl⟩, _, _, rfl, h⟩
def wX8_tryOrders_37 (G : jG) (l : Launch) (d : Nat) (Q : Option Value → jS → jL → Prop) (x4 : Int32) (I : jS) (L : jL) : Prop := cV G l mX8_keepAs d [.ref 37, .int x4] I L (fun I1 L1 => (Q none I1 L1))
set_option maxRecDepth 100000 in
set_option maxHeartbeats 4000000 in
theorem wX8_tryOrders_37_ok {G : jG} {l : Launch} {d : Nat} {Q : Option Value → jS → jL → Prop} : ∀ (x4 : Int32) (I : jS) (L : jL), wX8_tryOrders_37 G l d Q x4 I L → J G l yX8_tryOrders cX8_tryOrders 8 (d + 1) 0 0 37 [some (.ref 37), none, none, none, some (.int x4), none, none, none] [] (jKS, I, L, jR0) (jQm (none) Q) := by
  intro x4 I L h
  rw [wX8_tryOrders_37] at h
  refine jr_aload_n dX8_tryOrders_37 rfl rfl ?_
  refine jr_iload dX8_tryOrders_38 rfl ?_
  refine jr_callV (mc2 := 0) (mc := 0) (ms2 := 0) (ms := 0) vm_X8_82 (av := [.int x4]) (st := []) rfl rfl ks_37 (by decide) rfl (Nat.le_of_ble_eq_true rfl) dX8_tryOrders_40 (cV_use (M := (yX8_keepAs, cX8_keepAs, 2, none)) h ?_)
  intro I1 L1 h
  exact jr_return dX8_tryOrders_43 ⟨Or.inl ⟨rfl, rfl⟩, _, _, rfl, h⟩
def wX8_tryOrders_119 (G : jG) (l : Launch) (d : Nat) (k61 : Int32 → Int32 → Int32 → Int32 → Int32 → Int32 → jS → jL → Prop) (Q : Option Value → jS → jL → Prop) (x1 : Int32) (x2 : Int32) (x3 : Int32) (x4 : Int32) (x5 : Int32) (x6 : Int32) (t0 : Int32) (I : jS) (L : jL) : Prop := cV G l mX8_tryOrders d [.ref 37, .int x1, .int (x2 + (1 : Int32)), .int (x3 ||| ((1 : Int32) <<< (x6 &&& 31))), .int (x4 + t0)] I L (fun I1 L1 => (cV G l mX8_restore d [.ref 37, .int x2, .int x5] I1 L1 (fun I2 L2 => (k61 x1 x2 x3 x4 x5 (x6 + (1 : Int32)) I2 L2))))
set_option maxRecDepth 100000 in
set_option maxHeartbeats 4000000 in
theorem wX8_tryOrders_119_ok {G : jG} {l : Launch} {d : Nat} {Q : Option Value → jS → jL → Prop} {k61 : Int32 → Int32 → Int32 → Int32 → Int32 → Int32 → jS → jL → Prop} (hk61 : ∀ (x1 : Int32) (x2 : Int32) (x3 : Int32) (x4 : Int32) (x5 : Int32) (x6 : Int32) (I : jS) (L : jL), k61 x1 x2 x3 x4 x5 x6 I L → J G l yX8_tryOrders cX8_tryOrders 8 (d + 1) 0 0 61 [some (.ref 37), some (.int x1), some (.int x2), some (.int x3), some (.int x4), some (.int x5), some (.int x6), none] [] (jKS, I, L, jR0) (jQm (none) Q)) : ∀ (x1 : Int32) (x2 : Int32) (x3 : Int32) (x4 : Int32) (x5 : Int32) (x6 : Int32) (t0 : Int32) (I : jS) (L : jL), wX8_tryOrders_119 G l d k61 Q x1 x2 x3 x4 x5 x6 t0 I L → J G l yX8_tryOrders cX8_tryOrders 8 (d + 1) 0 0 119 [some (.ref 37), some (.int x1), some (.int x2), some (.int x3), some (.int x4), some (.int x5), some (.int x6), none] [.int t0] (jKS, I, L, jR0) (jQm (none) Q) := by
  intro x1 x2 x3 x4 x5 x6 t0 I L h
  rw [wX8_tryOrders_119] at h
  refine jr_istore dX8_tryOrders_119 (by decide) rfl ?_
  refine jr_aload_n dX8_tryOrders_121 rfl rfl ?_
  refine jr_iload_n dX8_tryOrders_122 rfl rfl ?_
  refine jr_iload_n dX8_tryOrders_123 rfl rfl ?_
  refine jr_iconst dX8_tryOrders_124 kic_1 ?_
  refine jr_iadd dX8_tryOrders_125 ?_
  refine jr_iload_n dX8_tryOrders_126 rfl rfl ?_
  refine jr_iconst dX8_tryOrders_127 kic_1 ?_
  refine jr_iload dX8_tryOrders_128 rfl ?_
  refine jr_ishl dX8_tryOrders_130 ?_
  refine jr_ior dX8_tryOrders_131 ?_
  refine jr_iload dX8_tryOrders_132 rfl ?_
  refine jr_iload dX8_tryOrders_134 rfl ?_
  refine jr_iadd dX8_tryOrders_136 ?_
  refine jr_callV (mc2 := 0) (mc := 0) (ms2 := 0) (ms := 0) vm_X8_46 (av := [.int x1, .int (x2 + (1 : Int32)), .int (x3 ||| ((1 : Int32) <<< (x6 &&& 31))), .int (x4 + t0)]) (st := []) rfl rfl ks_37 (by decide) rfl (Nat.le_of_ble_eq_true rfl) dX8_tryOrders_137 (cV_use (M := (yX8_tryOrders, cX8_tryOrders, 8, none)) h ?_)
  intro I1 L1 h
  refine jr_aload_n dX8_tryOrders_140 rfl rfl ?_
  refine jr_iload_n dX8_tryOrders_141 rfl rfl ?_
  refine jr_iload dX8_tryOrders_142 rfl ?_
  refine jr_callV (mc2 := 0) (mc := 0) (ms2 := 0) (ms := 0) vm_X8_93 (av := [.int x2, .int x5]) (st := []) rfl rfl ks_37 (by decide) rfl (Nat.le_of_ble_eq_true rfl) dX8_tryOrders_144 (cV_use (M := (yX8_restore, cX8_restore, 3, none)) h ?_)
  intro I2 L2 h
  refine jr_iinc dX8_tryOrders_147 rfl (by rw [kic_1]) (by decide) rfl ?_
  refine jr_goto dX8_tryOrders_150 (tgt := 61) (by decide) ?_
  exact J.sub (hk61 _ _ _ _ _ _ _ _ h) (jsub_some (jsub_some (jsub_some (jsub_some (jsub_some (jsub_some (jsub_some (jsub_none jsub_nil))))))))
def wX8_tryOrders_61 (G : jG) (l : Launch) (d : Nat) (Q : Option Value → jS → jL → Prop) : Nat → Int32 → Int32 → Int32 → Int32 → Int32 → Int32 → jS → jL → Prop
  | 0, _, _, _, _, _, _, _, _ => False
  | n61 + 1, x1, x2, x3, x4, x5, x6, I, L => if (I 1 1) ≤ x6 then (Q none I L) else (if ((x3 >>> (x6 &&& 31)) &&& (1 : Int32)) = (1 : Int32) then ((wX8_tryOrders_61 G l d Q n61) x1 x2 x3 x4 x5 (x6 + (1 : Int32)) I L) else (vp_in x2 7 ∧ (cI G l mX3_cross d [.ref 23, .ref 38, .int x1, .int x6, .int (0 : Int32), .int (0 : Int32)] (u2 I 49 x2.toNatClampNeg x6) L (fun r2 I2 L2 => (if r2 = (-1 : Int32) then (wX8_tryOrders_119 G l d (fun z0 z1 z2 z3 z4 z5 I L => wX8_tryOrders_61 G l d Q n61 z0 z1 z2 z3 z4 z5 I L) Q x1 x2 x3 x4 x5 x6 (1 : Int32) I2 L2) else (wX8_tryOrders_119 G l d (fun z0 z1 z2 z3 z4 z5 I L => wX8_tryOrders_61 G l d Q n61 z0 z1 z2 z3 z4 z5 I L) Q x1 x2 x3 x4 x5 x6 (0 : Int32) I2 L2))))))
set_option maxRecDepth 100000 in
set_option maxHeartbeats 4000000 in
theorem wX8_tryOrders_61_ok {G : jG} {l : Launch} {d : Nat} {Q : Option Value → jS → jL → Prop} : ∀ (n : Nat) (x1 : Int32) (x2 : Int32) (x3 : Int32) (x4 : Int32) (x5 : Int32) (x6 : Int32) (I : jS) (L : jL), wX8_tryOrders_61 G l d Q n x1 x2 x3 x4 x5 x6 I L → J G l yX8_tryOrders cX8_tryOrders 8 (d + 1) 0 0 61 [some (.ref 37), some (.int x1), some (.int x2), some (.int x3), some (.int x4), some (.int x5), some (.int x6), none] [] (jKS, I, L, jR0) (jQm (none) Q) := by
  intro n
  induction n with
  | zero => intro x1 x2 x3 x4 x5 x6 I L h; exact h.elim
  | succ n ih =>
    intro x1 x2 x3 x4 x5 x6 I L h
    rw [wX8_tryOrders_61] at h
    refine jr_iload dX8_tryOrders_61 rfl ?_
    refine jr_aload_n dX8_tryOrders_63 rfl rfl ?_
    refine jr_geta ff_X8_9 ks_37 rr_37_0 dX8_tryOrders_64 ?_
    refine jv_geti rfl ff_X8_77 ks_1 dX8_tryOrders_67 ?_
    refine jr_icmp_ge dX8_tryOrders_70 (tgt := 153) (by decide) (fun c => ?_) (fun c => ?_)
    · rw [if_pos c] at h
      exact jr_return dX8_tryOrders_153 ⟨Or.inl ⟨rfl, rfl⟩, _, _, rfl, h⟩
    · rw [if_neg c] at h
      refine jr_iload_n dX8_tryOrders_73 rfl rfl ?_
      refine jr_iload dX8_tryOrders_74 rfl ?_
      refine jr_ishr dX8_tryOrders_76 ?_
      refine jr_iconst dX8_tryOrders_77 kic_1 ?_
      refine jr_iand dX8_tryOrders_78 ?_
      refine jr_iconst dX8_tryOrders_79 kic_1 ?_
      refine jr_icmp_ne dX8_tryOrders_80 (tgt := 86) (by decide) (fun c => ?_) (fun c => ?_)
      · rw [if_neg c] at h
        refine jr_aload_n dX8_tryOrders_86 rfl rfl ?_
        refine jr_geta ff_X8_31 ks_37 rr_37_4 dX8_tryOrders_87 ?_
        refine jr_iload_n dX8_tryOrders_90 rfl rfl ?_
        refine jr_iload dX8_tryOrders_91 rfl ?_
        obtain ⟨g1, h⟩ := h
        refine jr_iastore rfl ks_49 dX8_tryOrders_93 g1 ?_
        refine jr_aload_n dX8_tryOrders_94 rfl rfl ?_
        refine jr_geta ff_X8_15 ks_37 rr_37_1 dX8_tryOrders_95 ?_
        refine jr_aload_n dX8_tryOrders_98 rfl rfl ?_
        refine jr_geta ff_X8_22 ks_37 rr_37_2 dX8_tryOrders_99 ?_
        refine jr_iload_n dX8_tryOrders_102 rfl rfl ?_
        refine jr_iload dX8_tryOrders_103 rfl ?_
        refine jr_iconst dX8_tryOrders_105 kic_0 ?_
        refine jr_iconst dX8_tryOrders_106 kic_0 ?_
        refine jr_callV (mc2 := 0) (mc := 0) (ms2 := 0) (ms := 0) vm_X8_89 (av := [.ref 38, .int x1, .int x6, .int (0 : Int32), .int (0 : Int32)]) (st := []) rfl rfl ks_23 (by decide) rfl (Nat.le_of_ble_eq_true rfl) dX8_tryOrders_107 (cI_use (M := (yX3_cross, cX3_cross, 9, some .int)) h ?_)
        intro r2 I2 L2 h
        refine jr_iconst dX8_tryOrders_110 kic_m1 ?_
        refine jr_icmp_ne dX8_tryOrders_111 (tgt := 118) (by decide) (fun c => ?_) (fun c => ?_)
        · rw [if_neg c] at h
          refine jr_iconst dX8_tryOrders_118 kic_0 ?_
          exact J.sub (wX8_tryOrders_119_ok  ih _ _ _ _ _ _ _ _ _ h) (jsub_some (jsub_some (jsub_some (jsub_some (jsub_some (jsub_some (jsub_some (jsub_none jsub_nil))))))))
        · rw [if_pos c] at h
          refine jr_iconst dX8_tryOrders_114 kic_1 ?_
          refine jr_goto dX8_tryOrders_115 (tgt := 119) (by decide) ?_
          exact J.sub (wX8_tryOrders_119_ok  ih _ _ _ _ _ _ _ _ _ h) (jsub_some (jsub_some (jsub_some (jsub_some (jsub_some (jsub_some (jsub_some (jsub_none jsub_nil))))))))
      · rw [if_pos c] at h
        refine jr_goto dX8_tryOrders_83 (tgt := 147) (by decide) ?_
        refine jr_iinc dX8_tryOrders_147 rfl (by rw [kic_1]) (by decide) rfl ?_
        refine jr_goto dX8_tryOrders_150 (tgt := 61) (by decide) ?_
        exact J.sub (ih _ _ _ _ _ _ _ _ h) (jsub_some (jsub_some (jsub_some (jsub_some (jsub_some (jsub_some (jsub_some (jsub_none jsub_nil))))))))
def wX8_tryOrders (G : jG) (l : Launch) (d : Nat) (x1 : Int32) (x2 : Int32) (x3 : Int32) (x4 : Int32) (I : jS) (L : jL) (Q : Option Value → jS → jL → Prop) : Prop := if (I 37 6) < ((x4 + (I 1 1)) - x2) then (if (I 1 1) ≤ x2 then (wX8_tryOrders_37 G l d Q x4 I L) else (if x2 < (7 : Int32) then (cV G l mX8_save d [.ref 37, .int x2] I L (fun I1 L1 => (∃ e61 : Nat, wX8_tryOrders_61 G l d Q e61 x1 x2 x3 x4 (I 38 2) (0 : Int32) I1 L1))) else (wX8_tryOrders_37 G l d Q x4 I L))) else (Q none I L)
set_option maxRecDepth 100000 in
set_option maxHeartbeats 4000000 in
theorem wX8_tryOrders_ok {G : jG} {l : Launch} {d : Nat} {Q : Option Value → jS → jL → Prop} {x1 : Int32} {x2 : Int32} {x3 : Int32} {x4 : Int32} {I : jS} {L : jL} (h : wX8_tryOrders G l d x1 x2 x3 x4 I L Q) : cM G l mX8_tryOrders (d + 1) [.ref 37, .int x1, .int x2, .int x3, .int x4] I L Q := by
  rw [wX8_tryOrders] at h
  show jCall G l yX8_tryOrders cX8_tryOrders 8 (none) (d + 1) 0 0 _ (jKS, I, L, jR0) _
  refine jCall_of (n0 := 3) (ls := [some (.ref 37), some (.int x1), some (.int x2), some (.int x3), some (.int x4), none, none, none]) (by decide +kernel) rfl (Nat.le_of_ble_eq_true rfl) (jQm_of ?_)
  refine jr_iload dX8_tryOrders_0 rfl ?_
  refine jr_aload_n dX8_tryOrders_2 rfl rfl ?_
  refine jr_geta ff_X8_9 ks_37 rr_37_0 dX8_tryOrders_3 ?_
  refine jv_geti rfl ff_X8_77 ks_1 dX8_tryOrders_6 ?_
  refine jr_iadd dX8_tryOrders_9 ?_
  refine jr_iload_n dX8_tryOrders_10 rfl rfl ?_
  refine jr_isub dX8_tryOrders_11 ?_
  refine jr_aload_n dX8_tryOrders_12 rfl rfl ?_
  refine jv_geti rfl ff_X8_38 ks_37 dX8_tryOrders_13 ?_
  refine jr_icmp_gt dX8_tryOrders_16 (tgt := 20) (by decide) (fun c => ?_) (fun c => ?_)
  · rw [if_pos c] at h
    refine jr_iload_n dX8_tryOrders_20 rfl rfl ?_
    refine jr_aload_n dX8_tryOrders_21 rfl rfl ?_
    refine jr_geta ff_X8_9 ks_37 rr_37_0 dX8_tryOrders_22 ?_
    refine jv_geti rfl ff_X8_77 ks_1 dX8_tryOrders_25 ?_
    refine jr_icmp_ge dX8_tryOrders_28 (tgt := 37) (by decide) (fun c => ?_) (fun c => ?_)
    · rw [if_pos c] at h
      exact J.sub (wX8_tryOrders_37_ok  _ _ _ h) (jsub_some (jsub_none (jsub_none (jsub_none (jsub_some (jsub_none (jsub_none (jsub_none jsub_nil))))))))
    · rw [if_neg c] at h
      refine jr_iload_n dX8_tryOrders_31 rfl rfl ?_
      refine jr_bipush dX8_tryOrders_32 kbp_7 ?_
      refine jr_icmp_lt dX8_tryOrders_34 (tgt := 44) (by decide) (fun c => ?_) (fun c => ?_)
      · rw [if_pos c] at h
        refine jr_aload_n dX8_tryOrders_44 rfl rfl ?_
        refine jr_geta ff_X8_22 ks_37 rr_37_2 dX8_tryOrders_45 ?_
        refine jv_geti rfl ff_X8_74 ks_38 dX8_tryOrders_48 ?_
        refine jr_istore dX8_tryOrders_51 (by decide) rfl ?_
        refine jr_aload_n dX8_tryOrders_53 rfl rfl ?_
        refine jr_iload_n dX8_tryOrders_54 rfl rfl ?_
        refine jr_callV (mc2 := 0) (mc := 0) (ms2 := 0) (ms := 0) vm_X8_86 (av := [.int x2]) (st := []) rfl rfl ks_37 (by decide) rfl (Nat.le_of_ble_eq_true rfl) dX8_tryOrders_55 (cV_use (M := (yX8_save, cX8_save, 2, none)) h ?_)
        intro I1 L1 h
        refine jr_iconst dX8_tryOrders_58 kic_0 ?_
        refine jr_istore dX8_tryOrders_59 (by decide) rfl ?_
        obtain ⟨e61, h⟩ := h
        exact J.sub (wX8_tryOrders_61_ok  e61 _ _ _ _ _ _ _ _ h) (jsub_some (jsub_some (jsub_some (jsub_some (jsub_some (jsub_some (jsub_some (jsub_none jsub_nil))))))))
      · rw [if_neg c] at h
        exact J.sub (wX8_tryOrders_37_ok  _ _ _ h) (jsub_some (jsub_none (jsub_none (jsub_none (jsub_some (jsub_none (jsub_none (jsub_none jsub_nil))))))))
  · rw [if_neg c] at h
    exact jr_return dX8_tryOrders_19 ⟨Or.inl ⟨rfl, rfl⟩, _, _, rfl, h⟩
def wX8_tryWaiting_32 (G : jG) (l : Launch) (d : Nat) (Q : Option Value → jS → jL → Prop) (I : jS) (L : jL) : Prop := cV G l mX8_keepAs d [.ref 37, .int (I 38 2)] I L (fun I1 L1 => (Q none I1 L1))
set_option maxRecDepth 100000 in
set_option maxHeartbeats 4000000 in
theorem wX8_tryWaiting_32_ok {G : jG} {l : Launch} {d : Nat} {Q : Option Value → jS → jL → Prop} : ∀ (I : jS) (L : jL), wX8_tryWaiting_32 G l d Q I L → J G l yX8_tryWaiting cX8_tryWaiting 7 (d + 1) 0 0 32 [some (.ref 37), none, none, none, none, none, none] [] (jKS, I, L, jR0) (jQm (none) Q) := by
  intro I L h
  rw [wX8_tryWaiting_32] at h
  refine jr_aload_n dX8_tryWaiting_32 rfl rfl ?_
  refine jr_aload_n dX8_tryWaiting_33 rfl rfl ?_
  refine jr_geta ff_X8_22 ks_37 rr_37_2 dX8_tryWaiting_34 ?_
  refine jv_geti rfl ff_X8_74 ks_38 dX8_tryWaiting_37 ?_
  refine jr_callV (mc2 := 0) (mc := 0) (ms2 := 0) (ms := 0) vm_X8_82 (av := [.int (I 38 2)]) (st := []) rfl rfl ks_37 (by decide) rfl (Nat.le_of_ble_eq_true rfl) dX8_tryWaiting_40 (cV_use (M := (yX8_keepAs, cX8_keepAs, 2, none)) h ?_)
  intro I1 L1 h
  exact jr_return dX8_tryWaiting_43 ⟨Or.inl ⟨rfl, rfl⟩, _, _, rfl, h⟩
def wX8_tryWaiting_61 (G : jG) (l : Launch) (d : Nat) (Q : Option Value → jS → jL → Prop) : Nat → Int32 → Int32 → Int32 → Int32 → Int32 → jS → jL → Prop
  | 0, _, _, _, _, _, _, _ => False
  | n61 + 1, x1, x2, x3, x4, x5, I, L => if (I 1 1) ≤ x5 then (Q none I L) else (if ((x3 >>> (x5 &&& 31)) &&& (1 : Int32)) = (1 : Int32) then ((wX8_tryWaiting_61 G l d Q n61) x1 x2 x3 x4 (x5 + (1 : Int32)) I L) else (cI G l mX3_firstWait d [.ref 23, .ref 38, .int x1, .int x5] I L (fun r1 I1 L1 => (if r1 = (-1 : Int32) then ((wX8_tryWaiting_61 G l d Q n61) x1 x2 x3 x4 (x5 + (1 : Int32)) I1 L1) else (vp_in x2 7 ∧ (cV G l mX3_pass d [.ref 23, .ref 38, .int r1] (u2 I1 49 x2.toNatClampNeg x5) L1 (fun I3 L3 => (cI G l mX3_cross d [.ref 23, .ref 38, .int x1, .int x5, .int (0 : Int32), .int (0 : Int32)] I3 L3 (fun r4 I4 L4 => (cV G l mX8_tryWaiting d [.ref 37, .int x1, .int (x2 + (1 : Int32)), .int (x3 ||| ((1 : Int32) <<< (x5 &&& 31)))] I4 L4 (fun I5 L5 => (cV G l mX8_restore d [.ref 37, .int x2, .int x4] I5 L5 (fun I6 L6 => ((wX8_tryWaiting_61 G l d Q n61) x1 x2 x3 x4 (x5 + (1 : Int32)) I6 L6))))))))))))))
set_option maxRecDepth 100000 in
set_option maxHeartbeats 4000000 in
theorem wX8_tryWaiting_61_ok {G : jG} {l : Launch} {d : Nat} {Q : Option Value → jS → jL → Prop} : ∀ (n : Nat) (x1 : Int32) (x2 : Int32) (x3 : Int32) (x4 : Int32) (x5 : Int32) (I : jS) (L : jL), wX8_tryWaiting_61 G l d Q n x1 x2 x3 x4 x5 I L → J G l yX8_tryWaiting cX8_tryWaiting 7 (d + 1) 0 0 61 [some (.ref 37), some (.int x1), some (.int x2), some (.int x3), some (.int x4), some (.int x5), none] [] (jKS, I, L, jR0) (jQm (none) Q) := by
  intro n
  induction n with
  | zero => intro x1 x2 x3 x4 x5 I L h; exact h.elim
  | succ n ih =>
    intro x1 x2 x3 x4 x5 I L h
    rw [wX8_tryWaiting_61] at h
    refine jr_iload dX8_tryWaiting_61 rfl ?_
    refine jr_aload_n dX8_tryWaiting_63 rfl rfl ?_
    refine jr_geta ff_X8_9 ks_37 rr_37_0 dX8_tryWaiting_64 ?_
    refine jv_geti rfl ff_X8_77 ks_1 dX8_tryWaiting_67 ?_
    refine jr_icmp_ge dX8_tryWaiting_70 (tgt := 176) (by decide) (fun c => ?_) (fun c => ?_)
    · rw [if_pos c] at h
      exact jr_return dX8_tryWaiting_176 ⟨Or.inl ⟨rfl, rfl⟩, _, _, rfl, h⟩
    · rw [if_neg c] at h
      refine jr_iload_n dX8_tryWaiting_73 rfl rfl ?_
      refine jr_iload dX8_tryWaiting_74 rfl ?_
      refine jr_ishr dX8_tryWaiting_76 ?_
      refine jr_iconst dX8_tryWaiting_77 kic_1 ?_
      refine jr_iand dX8_tryWaiting_78 ?_
      refine jr_iconst dX8_tryWaiting_79 kic_1 ?_
      refine jr_icmp_ne dX8_tryWaiting_80 (tgt := 86) (by decide) (fun c => ?_) (fun c => ?_)
      · rw [if_neg c] at h
        refine jr_aload_n dX8_tryWaiting_86 rfl rfl ?_
        refine jr_geta ff_X8_15 ks_37 rr_37_1 dX8_tryWaiting_87 ?_
        refine jr_aload_n dX8_tryWaiting_90 rfl rfl ?_
        refine jr_geta ff_X8_22 ks_37 rr_37_2 dX8_tryWaiting_91 ?_
        refine jr_iload_n dX8_tryWaiting_94 rfl rfl ?_
        refine jr_iload dX8_tryWaiting_95 rfl ?_
        refine jr_callV (mc2 := 0) (mc := 0) (ms2 := 0) (ms := 0) vm_X8_96 (av := [.ref 38, .int x1, .int x5]) (st := []) rfl rfl ks_23 (by decide) rfl (Nat.le_of_ble_eq_true rfl) dX8_tryWaiting_97 (cI_use (M := (yX3_firstWait, cX3_firstWait, 5, some .int)) h ?_)
        intro r1 I1 L1 h
        refine jr_istore dX8_tryWaiting_100 (by decide) rfl ?_
        refine jr_iload dX8_tryWaiting_102 rfl ?_
        refine jr_iconst dX8_tryWaiting_104 kic_m1 ?_
        refine jr_icmp_ne dX8_tryWaiting_105 (tgt := 111) (by decide) (fun c => ?_) (fun c => ?_)
        · rw [if_neg c] at h
          refine jr_aload_n dX8_tryWaiting_111 rfl rfl ?_
          refine jr_geta ff_X8_31 ks_37 rr_37_4 dX8_tryWaiting_112 ?_
          refine jr_iload_n dX8_tryWaiting_115 rfl rfl ?_
          refine jr_iload dX8_tryWaiting_116 rfl ?_
          obtain ⟨g2, h⟩ := h
          refine jr_iastore rfl ks_49 dX8_tryWaiting_118 g2 ?_
          refine jr_aload_n dX8_tryWaiting_119 rfl rfl ?_
          refine jr_geta ff_X8_15 ks_37 rr_37_1 dX8_tryWaiting_120 ?_
          refine jr_aload_n dX8_tryWaiting_123 rfl rfl ?_
          refine jr_geta ff_X8_22 ks_37 rr_37_2 dX8_tryWaiting_124 ?_
          refine jr_iload dX8_tryWaiting_127 rfl ?_
          refine jr_callV (mc2 := 0) (mc := 0) (ms2 := 0) (ms := 0) vm_X8_100 (av := [.ref 38, .int r1]) (st := []) rfl rfl ks_23 (by decide) rfl (Nat.le_of_ble_eq_true rfl) dX8_tryWaiting_129 (cV_use (M := (yX3_pass, cX3_pass, 5, none)) h ?_)
          intro I3 L3 h
          refine jr_aload_n dX8_tryWaiting_132 rfl rfl ?_
          refine jr_geta ff_X8_15 ks_37 rr_37_1 dX8_tryWaiting_133 ?_
          refine jr_aload_n dX8_tryWaiting_136 rfl rfl ?_
          refine jr_geta ff_X8_22 ks_37 rr_37_2 dX8_tryWaiting_137 ?_
          refine jr_iload_n dX8_tryWaiting_140 rfl rfl ?_
          refine jr_iload dX8_tryWaiting_141 rfl ?_
          refine jr_iconst dX8_tryWaiting_143 kic_0 ?_
          refine jr_iconst dX8_tryWaiting_144 kic_0 ?_
          refine jr_callV (mc2 := 0) (mc := 0) (ms2 := 0) (ms := 0) vm_X8_89 (av := [.ref 38, .int x1, .int x5, .int (0 : Int32), .int (0 : Int32)]) (st := []) rfl rfl ks_23 (by decide) rfl (Nat.le_of_ble_eq_true rfl) dX8_tryWaiting_145 (cI_use (M := (yX3_cross, cX3_cross, 9, some .int)) h ?_)
          intro r4 I4 L4 h
          refine jr_pop dX8_tryWaiting_148 rfl ?_
          refine jr_aload_n dX8_tryWaiting_149 rfl rfl ?_
          refine jr_iload_n dX8_tryWaiting_150 rfl rfl ?_
          refine jr_iload_n dX8_tryWaiting_151 rfl rfl ?_
          refine jr_iconst dX8_tryWaiting_152 kic_1 ?_
          refine jr_iadd dX8_tryWaiting_153 ?_
          refine jr_iload_n dX8_tryWaiting_154 rfl rfl ?_
          refine jr_iconst dX8_tryWaiting_155 kic_1 ?_
          refine jr_iload dX8_tryWaiting_156 rfl ?_
          refine jr_ishl dX8_tryWaiting_158 ?_
          refine jr_ior dX8_tryWaiting_159 ?_
          refine jr_callV (mc2 := 0) (mc := 0) (ms2 := 0) (ms := 0) vm_X8_51 (av := [.int x1, .int (x2 + (1 : Int32)), .int (x3 ||| ((1 : Int32) <<< (x5 &&& 31)))]) (st := []) rfl rfl ks_37 (by decide) rfl (Nat.le_of_ble_eq_true rfl) dX8_tryWaiting_160 (cV_use (M := (yX8_tryWaiting, cX8_tryWaiting, 7, none)) h ?_)
          intro I5 L5 h
          refine jr_aload_n dX8_tryWaiting_163 rfl rfl ?_
          refine jr_iload_n dX8_tryWaiting_164 rfl rfl ?_
          refine jr_iload dX8_tryWaiting_165 rfl ?_
          refine jr_callV (mc2 := 0) (mc := 0) (ms2 := 0) (ms := 0) vm_X8_93 (av := [.int x2, .int x4]) (st := []) rfl rfl ks_37 (by decide) rfl (Nat.le_of_ble_eq_true rfl) dX8_tryWaiting_167 (cV_use (M := (yX8_restore, cX8_restore, 3, none)) h ?_)
          intro I6 L6 h
          refine jr_iinc dX8_tryWaiting_170 rfl (by rw [kic_1]) (by decide) rfl ?_
          refine jr_goto dX8_tryWaiting_173 (tgt := 61) (by decide) ?_
          exact J.sub (ih _ _ _ _ _ _ _ h) (jsub_some (jsub_some (jsub_some (jsub_some (jsub_some (jsub_some (jsub_none jsub_nil)))))))
        · rw [if_pos c] at h
          refine jr_goto dX8_tryWaiting_108 (tgt := 170) (by decide) ?_
          refine jr_iinc dX8_tryWaiting_170 rfl (by rw [kic_1]) (by decide) rfl ?_
          refine jr_goto dX8_tryWaiting_173 (tgt := 61) (by decide) ?_
          exact J.sub (ih _ _ _ _ _ _ _ h) (jsub_some (jsub_some (jsub_some (jsub_some (jsub_some (jsub_some (jsub_none jsub_nil)))))))
      · rw [if_pos c] at h
        refine jr_goto dX8_tryWaiting_83 (tgt := 170) (by decide) ?_
        refine jr_iinc dX8_tryWaiting_170 rfl (by rw [kic_1]) (by decide) rfl ?_
        refine jr_goto dX8_tryWaiting_173 (tgt := 61) (by decide) ?_
        exact J.sub (ih _ _ _ _ _ _ _ h) (jsub_some (jsub_some (jsub_some (jsub_some (jsub_some (jsub_some (jsub_none jsub_nil)))))))
def wX8_tryWaiting (G : jG) (l : Launch) (d : Nat) (x1 : Int32) (x2 : Int32) (x3 : Int32) (I : jS) (L : jL) (Q : Option Value → jS → jL → Prop) : Prop := if (I 38 2) < (I 37 6) then (if (I 1 1) ≤ x2 then (wX8_tryWaiting_32 G l d Q I L) else (if x2 < (7 : Int32) then (cV G l mX8_save d [.ref 37, .int x2] I L (fun I1 L1 => (∃ e61 : Nat, wX8_tryWaiting_61 G l d Q e61 x1 x2 x3 (I 38 2) (0 : Int32) I1 L1))) else (wX8_tryWaiting_32 G l d Q I L))) else (Q none I L)
set_option maxRecDepth 100000 in
set_option maxHeartbeats 4000000 in
theorem wX8_tryWaiting_ok {G : jG} {l : Launch} {d : Nat} {Q : Option Value → jS → jL → Prop} {x1 : Int32} {x2 : Int32} {x3 : Int32} {I : jS} {L : jL} (h : wX8_tryWaiting G l d x1 x2 x3 I L Q) : cM G l mX8_tryWaiting (d + 1) [.ref 37, .int x1, .int x2, .int x3] I L Q := by
  rw [wX8_tryWaiting] at h
  show jCall G l yX8_tryWaiting cX8_tryWaiting 7 (none) (d + 1) 0 0 _ (jKS, I, L, jR0) _
  refine jCall_of (n0 := 3) (ls := [some (.ref 37), some (.int x1), some (.int x2), some (.int x3), none, none, none]) (by decide +kernel) rfl (Nat.le_of_ble_eq_true rfl) (jQm_of ?_)
  refine jr_aload_n dX8_tryWaiting_0 rfl rfl ?_
  refine jr_geta ff_X8_22 ks_37 rr_37_2 dX8_tryWaiting_1 ?_
  refine jv_geti rfl ff_X8_74 ks_38 dX8_tryWaiting_4 ?_
  refine jr_aload_n dX8_tryWaiting_7 rfl rfl ?_
  refine jv_geti rfl ff_X8_38 ks_37 dX8_tryWaiting_8 ?_
  refine jr_icmp_lt dX8_tryWaiting_11 (tgt := 15) (by decide) (fun c => ?_) (fun c => ?_)
  · rw [if_pos c] at h
    refine jr_iload_n dX8_tryWaiting_15 rfl rfl ?_
    refine jr_aload_n dX8_tryWaiting_16 rfl rfl ?_
    refine jr_geta ff_X8_9 ks_37 rr_37_0 dX8_tryWaiting_17 ?_
    refine jv_geti rfl ff_X8_77 ks_1 dX8_tryWaiting_20 ?_
    refine jr_icmp_ge dX8_tryWaiting_23 (tgt := 32) (by decide) (fun c => ?_) (fun c => ?_)
    · rw [if_pos c] at h
      exact J.sub (wX8_tryWaiting_32_ok  _ _ h) (jsub_some (jsub_none (jsub_none (jsub_none (jsub_none (jsub_none (jsub_none jsub_nil)))))))
    · rw [if_neg c] at h
      refine jr_iload_n dX8_tryWaiting_26 rfl rfl ?_
      refine jr_bipush dX8_tryWaiting_27 kbp_7 ?_
      refine jr_icmp_lt dX8_tryWaiting_29 (tgt := 44) (by decide) (fun c => ?_) (fun c => ?_)
      · rw [if_pos c] at h
        refine jr_aload_n dX8_tryWaiting_44 rfl rfl ?_
        refine jr_geta ff_X8_22 ks_37 rr_37_2 dX8_tryWaiting_45 ?_
        refine jv_geti rfl ff_X8_74 ks_38 dX8_tryWaiting_48 ?_
        refine jr_istore dX8_tryWaiting_51 (by decide) rfl ?_
        refine jr_aload_n dX8_tryWaiting_53 rfl rfl ?_
        refine jr_iload_n dX8_tryWaiting_54 rfl rfl ?_
        refine jr_callV (mc2 := 0) (mc := 0) (ms2 := 0) (ms := 0) vm_X8_86 (av := [.int x2]) (st := []) rfl rfl ks_37 (by decide) rfl (Nat.le_of_ble_eq_true rfl) dX8_tryWaiting_55 (cV_use (M := (yX8_save, cX8_save, 2, none)) h ?_)
        intro I1 L1 h
        refine jr_iconst dX8_tryWaiting_58 kic_0 ?_
        refine jr_istore dX8_tryWaiting_59 (by decide) rfl ?_
        obtain ⟨e61, h⟩ := h
        exact J.sub (wX8_tryWaiting_61_ok  e61 _ _ _ _ _ _ _ h) (jsub_some (jsub_some (jsub_some (jsub_some (jsub_some (jsub_some (jsub_none jsub_nil)))))))
      · rw [if_neg c] at h
        exact J.sub (wX8_tryWaiting_32_ok  _ _ h) (jsub_some (jsub_none (jsub_none (jsub_none (jsub_none (jsub_none (jsub_none jsub_nil)))))))
  · rw [if_neg c] at h
    exact jr_return dX8_tryWaiting_14 ⟨Or.inl ⟨rfl, rfl⟩, _, _, rfl, h⟩
def wX8_tryWays_36 (G : jG) (l : Launch) (d : Nat) (Q : Option Value → jS → jL → Prop) (x2 : Int32) (I : jS) (L : jL) : Prop := cV G l mX8_keepAs d [.ref 37, .int x2] I L (fun I1 L1 => (Q none I1 L1))
set_option maxRecDepth 100000 in
set_option maxHeartbeats 4000000 in
theorem wX8_tryWays_36_ok {G : jG} {l : Launch} {d : Nat} {Q : Option Value → jS → jL → Prop} : ∀ (x2 : Int32) (I : jS) (L : jL), wX8_tryWays_36 G l d Q x2 I L → J G l yX8_tryWays cX8_tryWays 6 (d + 1) 0 0 36 [some (.ref 37), none, some (.int x2), none, none, none] [] (jKS, I, L, jR0) (jQm (none) Q) := by
  intro x2 I L h
  rw [wX8_tryWays_36] at h
  refine jr_aload_n dX8_tryWays_36 rfl rfl ?_
  refine jr_iload_n dX8_tryWays_37 rfl rfl ?_
  refine jr_callV (mc2 := 0) (mc := 0) (ms2 := 0) (ms := 0) vm_X8_82 (av := [.int x2]) (st := []) rfl rfl ks_37 (by decide) rfl (Nat.le_of_ble_eq_true rfl) dX8_tryWays_38 (cV_use (M := (yX8_keepAs, cX8_keepAs, 2, none)) h ?_)
  intro I1 L1 h
  exact jr_return dX8_tryWays_41 ⟨Or.inl ⟨rfl, rfl⟩, _, _, rfl, h⟩
def wX8_tryWays_97 (G : jG) (l : Launch) (d : Nat) (k58 : Int32 → Int32 → Int32 → Int32 → jS → jL → Prop) (Q : Option Value → jS → jL → Prop) (x1 : Int32) (x2 : Int32) (x3 : Int32) (x4 : Int32) (t0 : Int32) (I : jS) (L : jL) : Prop := cV G l mX8_tryWays d [.ref 37, .int (x1 + (1 : Int32)), .int (x2 + t0)] I L (fun I1 L1 => (cV G l mX8_restore d [.ref 37, .int x1, .int x3] I1 L1 (fun I2 L2 => (k58 x1 x2 x3 (x4 + (1 : Int32)) I2 L2))))
set_option maxRecDepth 100000 in
set_option maxHeartbeats 4000000 in
theorem wX8_tryWays_97_ok {G : jG} {l : Launch} {d : Nat} {Q : Option Value → jS → jL → Prop} {k58 : Int32 → Int32 → Int32 → Int32 → jS → jL → Prop} (hk58 : ∀ (x1 : Int32) (x2 : Int32) (x3 : Int32) (x4 : Int32) (I : jS) (L : jL), k58 x1 x2 x3 x4 I L → J G l yX8_tryWays cX8_tryWays 6 (d + 1) 0 0 58 [some (.ref 37), some (.int x1), some (.int x2), some (.int x3), some (.int x4), none] [] (jKS, I, L, jR0) (jQm (none) Q)) : ∀ (x1 : Int32) (x2 : Int32) (x3 : Int32) (x4 : Int32) (t0 : Int32) (I : jS) (L : jL), wX8_tryWays_97 G l d k58 Q x1 x2 x3 x4 t0 I L → J G l yX8_tryWays cX8_tryWays 6 (d + 1) 0 0 97 [some (.ref 37), some (.int x1), some (.int x2), some (.int x3), some (.int x4), none] [.int t0] (jKS, I, L, jR0) (jQm (none) Q) := by
  intro x1 x2 x3 x4 t0 I L h
  rw [wX8_tryWays_97] at h
  refine jr_istore dX8_tryWays_97 (by decide) rfl ?_
  refine jr_aload_n dX8_tryWays_99 rfl rfl ?_
  refine jr_iload_n dX8_tryWays_100 rfl rfl ?_
  refine jr_iconst dX8_tryWays_101 kic_1 ?_
  refine jr_iadd dX8_tryWays_102 ?_
  refine jr_iload_n dX8_tryWays_103 rfl rfl ?_
  refine jr_iload dX8_tryWays_104 rfl ?_
  refine jr_iadd dX8_tryWays_106 ?_
  refine jr_callV (mc2 := 0) (mc := 0) (ms2 := 0) (ms := 0) vm_X8_55 (av := [.int (x1 + (1 : Int32)), .int (x2 + t0)]) (st := []) rfl rfl ks_37 (by decide) rfl (Nat.le_of_ble_eq_true rfl) dX8_tryWays_107 (cV_use (M := (yX8_tryWays, cX8_tryWays, 6, none)) h ?_)
  intro I1 L1 h
  refine jr_aload_n dX8_tryWays_110 rfl rfl ?_
  refine jr_iload_n dX8_tryWays_111 rfl rfl ?_
  refine jr_iload_n dX8_tryWays_112 rfl rfl ?_
  refine jr_callV (mc2 := 0) (mc := 0) (ms2 := 0) (ms := 0) vm_X8_93 (av := [.int x1, .int x3]) (st := []) rfl rfl ks_37 (by decide) rfl (Nat.le_of_ble_eq_true rfl) dX8_tryWays_113 (cV_use (M := (yX8_restore, cX8_restore, 3, none)) h ?_)
  intro I2 L2 h
  refine jr_iinc dX8_tryWays_116 rfl (by rw [kic_1]) (by decide) rfl ?_
  refine jr_goto dX8_tryWays_119 (tgt := 58) (by decide) ?_
  exact J.sub (hk58 _ _ _ _ _ _ h) (jsub_some (jsub_some (jsub_some (jsub_some (jsub_some (jsub_none jsub_nil))))))
def wX8_tryWays_58 (G : jG) (l : Launch) (d : Nat) (Q : Option Value → jS → jL → Prop) : Nat → Int32 → Int32 → Int32 → Int32 → jS → jL → Prop
  | 0, _, _, _, _, _, _ => False
  | n58 + 1, x1, x2, x3, x4, I, L => if (3 : Int32) ≤ x4 then (Q none I L) else (vp_in x1 7 ∧ (cI G l mX3_cross d [.ref 23, .ref 38, .int x4, .int x1, .int (0 : Int32), .int (0 : Int32)] (u2 I 49 x1.toNatClampNeg x4) L (fun r2 I2 L2 => (if r2 = (-1 : Int32) then (wX8_tryWays_97 G l d (fun z0 z1 z2 z3 I L => wX8_tryWays_58 G l d Q n58 z0 z1 z2 z3 I L) Q x1 x2 x3 x4 (1 : Int32) I2 L2) else (wX8_tryWays_97 G l d (fun z0 z1 z2 z3 I L => wX8_tryWays_58 G l d Q n58 z0 z1 z2 z3 I L) Q x1 x2 x3 x4 (0 : Int32) I2 L2)))))
set_option maxRecDepth 100000 in
set_option maxHeartbeats 4000000 in
theorem wX8_tryWays_58_ok {G : jG} {l : Launch} {d : Nat} {Q : Option Value → jS → jL → Prop} : ∀ (n : Nat) (x1 : Int32) (x2 : Int32) (x3 : Int32) (x4 : Int32) (I : jS) (L : jL), wX8_tryWays_58 G l d Q n x1 x2 x3 x4 I L → J G l yX8_tryWays cX8_tryWays 6 (d + 1) 0 0 58 [some (.ref 37), some (.int x1), some (.int x2), some (.int x3), some (.int x4), none] [] (jKS, I, L, jR0) (jQm (none) Q) := by
  intro n
  induction n with
  | zero => intro x1 x2 x3 x4 I L h; exact h.elim
  | succ n ih =>
    intro x1 x2 x3 x4 I L h
    rw [wX8_tryWays_58] at h
    refine jr_iload dX8_tryWays_58 rfl ?_
    refine jr_iconst dX8_tryWays_60 kic_3 ?_
    refine jr_icmp_ge dX8_tryWays_61 (tgt := 122) (by decide) (fun c => ?_) (fun c => ?_)
    · rw [if_pos c] at h
      exact jr_return dX8_tryWays_122 ⟨Or.inl ⟨rfl, rfl⟩, _, _, rfl, h⟩
    · rw [if_neg c] at h
      refine jr_aload_n dX8_tryWays_64 rfl rfl ?_
      refine jr_geta ff_X8_31 ks_37 rr_37_4 dX8_tryWays_65 ?_
      refine jr_iload_n dX8_tryWays_68 rfl rfl ?_
      refine jr_iload dX8_tryWays_69 rfl ?_
      obtain ⟨g1, h⟩ := h
      refine jr_iastore rfl ks_49 dX8_tryWays_71 g1 ?_
      refine jr_aload_n dX8_tryWays_72 rfl rfl ?_
      refine jr_geta ff_X8_15 ks_37 rr_37_1 dX8_tryWays_73 ?_
      refine jr_aload_n dX8_tryWays_76 rfl rfl ?_
      refine jr_geta ff_X8_22 ks_37 rr_37_2 dX8_tryWays_77 ?_
      refine jr_iload dX8_tryWays_80 rfl ?_
      refine jr_iload_n dX8_tryWays_82 rfl rfl ?_
      refine jr_iconst dX8_tryWays_83 kic_0 ?_
      refine jr_iconst dX8_tryWays_84 kic_0 ?_
      refine jr_callV (mc2 := 0) (mc := 0) (ms2 := 0) (ms := 0) vm_X8_89 (av := [.ref 38, .int x4, .int x1, .int (0 : Int32), .int (0 : Int32)]) (st := []) rfl rfl ks_23 (by decide) rfl (Nat.le_of_ble_eq_true rfl) dX8_tryWays_85 (cI_use (M := (yX3_cross, cX3_cross, 9, some .int)) h ?_)
      intro r2 I2 L2 h
      refine jr_iconst dX8_tryWays_88 kic_m1 ?_
      refine jr_icmp_ne dX8_tryWays_89 (tgt := 96) (by decide) (fun c => ?_) (fun c => ?_)
      · rw [if_neg c] at h
        refine jr_iconst dX8_tryWays_96 kic_0 ?_
        exact J.sub (wX8_tryWays_97_ok  ih _ _ _ _ _ _ _ h) (jsub_some (jsub_some (jsub_some (jsub_some (jsub_some (jsub_none jsub_nil))))))
      · rw [if_pos c] at h
        refine jr_iconst dX8_tryWays_92 kic_1 ?_
        refine jr_goto dX8_tryWays_93 (tgt := 97) (by decide) ?_
        exact J.sub (wX8_tryWays_97_ok  ih _ _ _ _ _ _ _ h) (jsub_some (jsub_some (jsub_some (jsub_some (jsub_some (jsub_none jsub_nil))))))
def wX8_tryWays (G : jG) (l : Launch) (d : Nat) (x1 : Int32) (x2 : Int32) (I : jS) (L : jL) (Q : Option Value → jS → jL → Prop) : Prop := if (I 37 6) < ((x2 + (I 1 1)) - x1) then (if (I 1 1) ≤ x1 then (wX8_tryWays_36 G l d Q x2 I L) else (if x1 < (7 : Int32) then (cV G l mX8_save d [.ref 37, .int x1] I L (fun I1 L1 => (∃ e58 : Nat, wX8_tryWays_58 G l d Q e58 x1 x2 (I 38 2) (0 : Int32) I1 L1))) else (wX8_tryWays_36 G l d Q x2 I L))) else (Q none I L)
set_option maxRecDepth 100000 in
set_option maxHeartbeats 4000000 in
theorem wX8_tryWays_ok {G : jG} {l : Launch} {d : Nat} {Q : Option Value → jS → jL → Prop} {x1 : Int32} {x2 : Int32} {I : jS} {L : jL} (h : wX8_tryWays G l d x1 x2 I L Q) : cM G l mX8_tryWays (d + 1) [.ref 37, .int x1, .int x2] I L Q := by
  rw [wX8_tryWays] at h
  show jCall G l yX8_tryWays cX8_tryWays 6 (none) (d + 1) 0 0 _ (jKS, I, L, jR0) _
  refine jCall_of (n0 := 3) (ls := [some (.ref 37), some (.int x1), some (.int x2), none, none, none]) (by decide +kernel) rfl (Nat.le_of_ble_eq_true rfl) (jQm_of ?_)
  refine jr_iload_n dX8_tryWays_0 rfl rfl ?_
  refine jr_aload_n dX8_tryWays_1 rfl rfl ?_
  refine jr_geta ff_X8_9 ks_37 rr_37_0 dX8_tryWays_2 ?_
  refine jv_geti rfl ff_X8_77 ks_1 dX8_tryWays_5 ?_
  refine jr_iadd dX8_tryWays_8 ?_
  refine jr_iload_n dX8_tryWays_9 rfl rfl ?_
  refine jr_isub dX8_tryWays_10 ?_
  refine jr_aload_n dX8_tryWays_11 rfl rfl ?_
  refine jv_geti rfl ff_X8_38 ks_37 dX8_tryWays_12 ?_
  refine jr_icmp_gt dX8_tryWays_15 (tgt := 19) (by decide) (fun c => ?_) (fun c => ?_)
  · rw [if_pos c] at h
    refine jr_iload_n dX8_tryWays_19 rfl rfl ?_
    refine jr_aload_n dX8_tryWays_20 rfl rfl ?_
    refine jr_geta ff_X8_9 ks_37 rr_37_0 dX8_tryWays_21 ?_
    refine jv_geti rfl ff_X8_77 ks_1 dX8_tryWays_24 ?_
    refine jr_icmp_ge dX8_tryWays_27 (tgt := 36) (by decide) (fun c => ?_) (fun c => ?_)
    · rw [if_pos c] at h
      exact J.sub (wX8_tryWays_36_ok  _ _ _ h) (jsub_some (jsub_none (jsub_some (jsub_none (jsub_none (jsub_none jsub_nil))))))
    · rw [if_neg c] at h
      refine jr_iload_n dX8_tryWays_30 rfl rfl ?_
      refine jr_bipush dX8_tryWays_31 kbp_7 ?_
      refine jr_icmp_lt dX8_tryWays_33 (tgt := 42) (by decide) (fun c => ?_) (fun c => ?_)
      · rw [if_pos c] at h
        refine jr_aload_n dX8_tryWays_42 rfl rfl ?_
        refine jr_geta ff_X8_22 ks_37 rr_37_2 dX8_tryWays_43 ?_
        refine jv_geti rfl ff_X8_74 ks_38 dX8_tryWays_46 ?_
        refine jr_istore_n dX8_tryWays_49 rfl (by decide) rfl ?_
        refine jr_aload_n dX8_tryWays_50 rfl rfl ?_
        refine jr_iload_n dX8_tryWays_51 rfl rfl ?_
        refine jr_callV (mc2 := 0) (mc := 0) (ms2 := 0) (ms := 0) vm_X8_86 (av := [.int x1]) (st := []) rfl rfl ks_37 (by decide) rfl (Nat.le_of_ble_eq_true rfl) dX8_tryWays_52 (cV_use (M := (yX8_save, cX8_save, 2, none)) h ?_)
        intro I1 L1 h
        refine jr_iconst dX8_tryWays_55 kic_0 ?_
        refine jr_istore dX8_tryWays_56 (by decide) rfl ?_
        obtain ⟨e58, h⟩ := h
        exact J.sub (wX8_tryWays_58_ok  e58 _ _ _ _ _ _ h) (jsub_some (jsub_some (jsub_some (jsub_some (jsub_some (jsub_none jsub_nil))))))
      · rw [if_neg c] at h
        exact J.sub (wX8_tryWays_36_ok  _ _ _ h) (jsub_some (jsub_none (jsub_some (jsub_none (jsub_none (jsub_none jsub_nil))))))
  · rw [if_neg c] at h
    exact jr_return dX8_tryWays_18 ⟨Or.inl ⟨rfl, rfl⟩, _, _, rfl, h⟩

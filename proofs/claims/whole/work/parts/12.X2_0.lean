def wX2_add_13 (G : jG) (l : Launch) (d : Nat) (Q : Option Value → jS → jL → Prop) (x1 : Int32) (x2 : Int32) (x3 : Int32) (x4 : Int32) (I : jS) (L : jL) : Prop := vp_in (I 12 4) 40 ∧ (Q none (u2 (u2 (u2 (u2 (u2 (u2 I 13 ((I 12 4).toNatClampNeg) x1) 14 ((I 12 4).toNatClampNeg) x2) 15 ((I 12 4).toNatClampNeg) x3) 16 ((I 12 4).toNatClampNeg) x4) 12 4 ((I 12 4) + (1 : Int32))) 12 5 ((I 12 4) + (1 : Int32))) L)
set_option maxRecDepth 100000 in
set_option maxHeartbeats 4000000 in
theorem wX2_add_13_ok {G : jG} {l : Launch} {d : Nat} {Q : Option Value → jS → jL → Prop} : ∀ (x1 : Int32) (x2 : Int32) (x3 : Int32) (x4 : Int32) (I : jS) (L : jL), wX2_add_13 G l d Q x1 x2 x3 x4 I L → J G l yX2_add cX2_add 5 (d + 1) 0 0 13 [some (.ref 12), some (.int x1), some (.int x2), some (.int x3), some (.int x4)] [] (jKS, I, L, jR0) (jQm (none) Q) := by
  intro x1 x2 x3 x4 I L h
  rw [wX2_add_13] at h
  refine jr_aload_n dX2_add_13 rfl rfl ?_
  refine jr_geta ff_X2_9 ks_12 rr_12_0 dX2_add_14 ?_
  refine jr_aload_n dX2_add_17 rfl rfl ?_
  refine jv_geti rfl ff_X2_22 ks_12 dX2_add_18 ?_
  refine jr_iload_n dX2_add_21 rfl rfl ?_
  obtain ⟨g1, h⟩ := h
  refine jr_iastore rfl ks_13 dX2_add_22 g1 ?_
  refine jr_aload_n dX2_add_23 rfl rfl ?_
  refine jr_geta ff_X2_13 ks_12 rr_12_1 dX2_add_24 ?_
  refine jr_aload_n dX2_add_27 rfl rfl ?_
  refine jv_geti (u2n (by decide)) ff_X2_22 ks_12 dX2_add_28 ?_
  refine jr_iload_n dX2_add_31 rfl rfl ?_
  refine jr_iastore rfl ks_14 dX2_add_32 g1 ?_
  refine jr_aload_n dX2_add_33 rfl rfl ?_
  refine jr_geta ff_X2_16 ks_12 rr_12_2 dX2_add_34 ?_
  refine jr_aload_n dX2_add_37 rfl rfl ?_
  refine jv_geti ((u2n (by decide)).trans (u2n (by decide))) ff_X2_22 ks_12 dX2_add_38 ?_
  refine jr_iload_n dX2_add_41 rfl rfl ?_
  refine jr_iastore rfl ks_15 dX2_add_42 g1 ?_
  refine jr_aload_n dX2_add_43 rfl rfl ?_
  refine jr_geta ff_X2_19 ks_12 rr_12_3 dX2_add_44 ?_
  refine jr_aload_n dX2_add_47 rfl rfl ?_
  refine jv_geti ((u2n (by decide)).trans ((u2n (by decide)).trans (u2n (by decide)))) ff_X2_22 ks_12 dX2_add_48 ?_
  refine jr_iload dX2_add_51 rfl ?_
  refine jr_iastore rfl ks_16 dX2_add_53 g1 ?_
  refine jr_aload_n dX2_add_54 rfl rfl ?_
  refine jr_dup dX2_add_55 rfl ?_
  refine jv_geti ((u2n (by decide)).trans ((u2n (by decide)).trans ((u2n (by decide)).trans (u2n (by decide))))) ff_X2_22 ks_12 dX2_add_56 ?_
  refine jr_iconst dX2_add_59 kic_1 ?_
  refine jr_iadd dX2_add_60 ?_
  refine jr_puti ff_X2_22 ks_12 dX2_add_61 ?_
  refine jr_aload_n dX2_add_64 rfl rfl ?_
  refine jr_aload_n dX2_add_65 rfl rfl ?_
  refine jv_geti u2e ff_X2_22 ks_12 dX2_add_66 ?_
  refine jr_puti ff_X2_26 ks_12 dX2_add_69 ?_
  exact jr_return dX2_add_72 ⟨Or.inl ⟨rfl, rfl⟩, _, _, rfl, h⟩
def wX2_add (G : jG) (l : Launch) (d : Nat) (x1 : Int32) (x2 : Int32) (x3 : Int32) (x4 : Int32) (I : jS) (L : jL) (Q : Option Value → jS → jL → Prop) : Prop := if (I 12 4) < (40 : Int32) then (wX2_add_13 G l d Q x1 x2 x3 x4 I L) else (cV G l mX2_dropOldest d [.ref 12] I L (fun I1 L1 => (wX2_add_13 G l d Q x1 x2 x3 x4 I1 L1)))
set_option maxRecDepth 100000 in
set_option maxHeartbeats 4000000 in
theorem wX2_add_ok {G : jG} {l : Launch} {d : Nat} {Q : Option Value → jS → jL → Prop} {x1 : Int32} {x2 : Int32} {x3 : Int32} {x4 : Int32} {I : jS} {L : jL} (h : wX2_add G l d x1 x2 x3 x4 I L Q) : cM G l mX2_add (d + 1) [.ref 12, .int x1, .int x2, .int x3, .int x4] I L Q := by
  rw [wX2_add] at h
  show jCall G l yX2_add cX2_add 5 (none) (d + 1) 0 0 _ (jKS, I, L, jR0) _
  refine jCall_of (n0 := 0) (ls := [some (.ref 12), some (.int x1), some (.int x2), some (.int x3), some (.int x4)]) (by decide +kernel) rfl (Nat.le_of_ble_eq_true rfl) (jQm_of ?_)
  refine jr_aload_n dX2_add_0 rfl rfl ?_
  refine jv_geti rfl ff_X2_22 ks_12 dX2_add_1 ?_
  refine jr_bipush dX2_add_4 kbp_40 ?_
  refine jr_icmp_lt dX2_add_6 (tgt := 13) (by decide) (fun c => ?_) (fun c => ?_)
  · rw [if_pos c] at h
    exact J.sub (wX2_add_13_ok  _ _ _ _ _ _ h) (jsub_some (jsub_some (jsub_some (jsub_some (jsub_some jsub_nil)))))
  · rw [if_neg c] at h
    refine jr_aload_n dX2_add_9 rfl rfl ?_
    refine jr_callV (mc2 := 0) (mc := 0) (ms2 := 0) (ms := 0) vm_X2_29 (av := []) (st := []) rfl rfl ks_12 (by decide) rfl (Nat.le_of_ble_eq_true rfl) dX2_add_10 (cV_use (M := (yX2_dropOldest, cX2_dropOldest, 2, none)) h ?_)
    intro I1 L1 h
    exact J.sub (wX2_add_13_ok  _ _ _ _ _ _ h) (jsub_some (jsub_some (jsub_some (jsub_some (jsub_some jsub_nil)))))
def wX2_dropOldest (G : jG) (l : Launch) (d : Nat) (I : jS) (L : jL) (Q : Option Value → jS → jL → Prop) : Prop := jcok (1 : Int32) (0 : Int32) (39 : Int32) 40 40 ∧ (jcok (1 : Int32) (0 : Int32) (39 : Int32) 40 40 ∧ (jcok (1 : Int32) (0 : Int32) (39 : Int32) 40 40 ∧ (jcok (1 : Int32) (0 : Int32) (39 : Int32) 40 40 ∧ (Q none (u2 (jcpy (jcpy (jcpy (jcpy I 13 13 (1 : Int32) (0 : Int32) (39 : Int32)) 14 14 (1 : Int32) (0 : Int32) (39 : Int32)) 15 15 (1 : Int32) (0 : Int32) (39 : Int32)) 16 16 (1 : Int32) (0 : Int32) (39 : Int32)) 12 4 (39 : Int32)) L))))
set_option maxRecDepth 100000 in
set_option maxHeartbeats 4000000 in
theorem wX2_dropOldest_ok {G : jG} {l : Launch} {d : Nat} {Q : Option Value → jS → jL → Prop} {I : jS} {L : jL} (h : wX2_dropOldest G l d I L Q) : cM G l mX2_dropOldest (d + 1) [.ref 12] I L Q := by
  rw [wX2_dropOldest] at h
  show jCall G l yX2_dropOldest cX2_dropOldest 2 (none) (d + 1) 0 0 _ (jKS, I, L, jR0) _
  refine jCall_of (n0 := 1) (ls := [some (.ref 12), none]) (by decide +kernel) rfl (Nat.le_of_ble_eq_true rfl) (jQm_of ?_)
  refine jr_bipush dX2_dropOldest_0 kbp_39 ?_
  refine jr_istore_n dX2_dropOldest_2 rfl (by decide) rfl ?_
  refine jr_aload_n dX2_dropOldest_3 rfl rfl ?_
  refine jr_geta ff_X2_9 ks_12 rr_12_0 dX2_dropOldest_4 ?_
  refine jr_iconst dX2_dropOldest_7 kic_1 ?_
  refine jr_aload_n dX2_dropOldest_8 rfl rfl ?_
  refine jr_geta ff_X2_9 ks_12 rr_12_0 dX2_dropOldest_9 ?_
  refine jr_iconst dX2_dropOldest_12 kic_0 ?_
  refine jr_iload_n dX2_dropOldest_13 rfl rfl ?_
  obtain ⟨g1, h⟩ := h
  refine jr_copyi cw_X2_32 ks_13 ks_13 g1 (by decide) (Nat.le_of_ble_eq_true rfl) dX2_dropOldest_14 ?_
  refine jr_aload_n dX2_dropOldest_17 rfl rfl ?_
  refine jr_geta ff_X2_13 ks_12 rr_12_1 dX2_dropOldest_18 ?_
  refine jr_iconst dX2_dropOldest_21 kic_1 ?_
  refine jr_aload_n dX2_dropOldest_22 rfl rfl ?_
  refine jr_geta ff_X2_13 ks_12 rr_12_1 dX2_dropOldest_23 ?_
  refine jr_iconst dX2_dropOldest_26 kic_0 ?_
  refine jr_iload_n dX2_dropOldest_27 rfl rfl ?_
  obtain ⟨g2, h⟩ := h
  refine jr_copyi cw_X2_32 ks_14 ks_14 g2 (by decide) (Nat.le_of_ble_eq_true rfl) dX2_dropOldest_28 ?_
  refine jr_aload_n dX2_dropOldest_31 rfl rfl ?_
  refine jr_geta ff_X2_16 ks_12 rr_12_2 dX2_dropOldest_32 ?_
  refine jr_iconst dX2_dropOldest_35 kic_1 ?_
  refine jr_aload_n dX2_dropOldest_36 rfl rfl ?_
  refine jr_geta ff_X2_16 ks_12 rr_12_2 dX2_dropOldest_37 ?_
  refine jr_iconst dX2_dropOldest_40 kic_0 ?_
  refine jr_iload_n dX2_dropOldest_41 rfl rfl ?_
  obtain ⟨g3, h⟩ := h
  refine jr_copyi cw_X2_32 ks_15 ks_15 g3 (by decide) (Nat.le_of_ble_eq_true rfl) dX2_dropOldest_42 ?_
  refine jr_aload_n dX2_dropOldest_45 rfl rfl ?_
  refine jr_geta ff_X2_19 ks_12 rr_12_3 dX2_dropOldest_46 ?_
  refine jr_iconst dX2_dropOldest_49 kic_1 ?_
  refine jr_aload_n dX2_dropOldest_50 rfl rfl ?_
  refine jr_geta ff_X2_19 ks_12 rr_12_3 dX2_dropOldest_51 ?_
  refine jr_iconst dX2_dropOldest_54 kic_0 ?_
  refine jr_iload_n dX2_dropOldest_55 rfl rfl ?_
  obtain ⟨g4, h⟩ := h
  refine jr_copyi cw_X2_32 ks_16 ks_16 g4 (by decide) (Nat.le_of_ble_eq_true rfl) dX2_dropOldest_56 ?_
  refine jr_aload_n dX2_dropOldest_59 rfl rfl ?_
  refine jr_iload_n dX2_dropOldest_60 rfl rfl ?_
  refine jr_puti ff_X2_22 ks_12 dX2_dropOldest_61 ?_
  exact jr_return dX2_dropOldest_64 ⟨Or.inl ⟨rfl, rfl⟩, _, _, rfl, h⟩
def wX2_undoIn (G : jG) (l : Launch) (d : Nat) (I : jS) (L : jL) (Q : Option Value → jS → jL → Prop) : Prop := if (I 12 4) < (1 : Int32) then (Q (some (.int (0 : Int32))) I L) else (if (I 12 4) ≤ (40 : Int32) then (vp_in ((I 12 4) - (1 : Int32)) 40 ∧ (cV G l mX7_set d [.ref 1, .int (I 13 (((I 12 4) - (1 : Int32)).toNatClampNeg)), .int (I 14 (((I 12 4) - (1 : Int32)).toNatClampNeg)), .int (I 15 (((I 12 4) - (1 : Int32)).toNatClampNeg))] (u2 I 12 4 ((I 12 4) - (1 : Int32))) L (fun I2 L2 => (Q (some (.int (1 : Int32))) I2 L2)))) else (Q (some (.int (0 : Int32))) I L))
set_option maxRecDepth 100000 in
set_option maxHeartbeats 4000000 in
theorem wX2_undoIn_ok {G : jG} {l : Launch} {d : Nat} {Q : Option Value → jS → jL → Prop} {I : jS} {L : jL} (h : wX2_undoIn G l d I L Q) : cM G l mX2_undoIn (d + 1) [.ref 12, .ref 1] I L Q := by
  rw [wX2_undoIn] at h
  show jCall G l yX2_undoIn cX2_undoIn 2 (some .boolean) (d + 1) 0 0 _ (jKS, I, L, jR0) _
  refine jCall_of (n0 := 0) (ls := [some (.ref 12), some (.ref 1)]) (by decide +kernel) rfl (Nat.le_of_ble_eq_true rfl) (jQm_of ?_)
  refine jr_aload_n dX2_undoIn_0 rfl rfl ?_
  refine jv_geti rfl ff_X2_22 ks_12 dX2_undoIn_1 ?_
  refine jr_iconst dX2_undoIn_4 kic_1 ?_
  refine jr_icmp_lt dX2_undoIn_5 (tgt := 17) (by decide) (fun c => ?_) (fun c => ?_)
  · rw [if_pos c] at h
    refine jr_iconst dX2_undoIn_17 kic_0 ?_
    exact jr_ireturn dX2_undoIn_18 ⟨Or.inr (Or.inr (Or.inr ⟨rfl, Or.inl rfl⟩)), _, _, rfl, h⟩
  · rw [if_neg c] at h
    refine jr_aload_n dX2_undoIn_8 rfl rfl ?_
    refine jv_geti rfl ff_X2_22 ks_12 dX2_undoIn_9 ?_
    refine jr_bipush dX2_undoIn_12 kbp_40 ?_
    refine jr_icmp_le dX2_undoIn_14 (tgt := 19) (by decide) (fun c => ?_) (fun c => ?_)
    · rw [if_pos c] at h
      refine jr_aload_n dX2_undoIn_19 rfl rfl ?_
      refine jr_dup dX2_undoIn_20 rfl ?_
      refine jv_geti rfl ff_X2_22 ks_12 dX2_undoIn_21 ?_
      refine jr_iconst dX2_undoIn_24 kic_1 ?_
      refine jr_isub dX2_undoIn_25 ?_
      refine jr_puti ff_X2_22 ks_12 dX2_undoIn_26 ?_
      refine jr_aload_n dX2_undoIn_29 rfl rfl ?_
      refine jr_aload_n dX2_undoIn_30 rfl rfl ?_
      refine jr_geta ff_X2_9 ks_12 rr_12_0 dX2_undoIn_31 ?_
      refine jr_aload_n dX2_undoIn_34 rfl rfl ?_
      refine jv_geti u2e ff_X2_22 ks_12 dX2_undoIn_35 ?_
      obtain ⟨g1, h⟩ := h
      refine jv_iaload (u2n (by decide)) rfl ks_13 dX2_undoIn_38 g1 ?_
      refine jr_aload_n dX2_undoIn_39 rfl rfl ?_
      refine jr_geta ff_X2_13 ks_12 rr_12_1 dX2_undoIn_40 ?_
      refine jr_aload_n dX2_undoIn_43 rfl rfl ?_
      refine jv_geti u2e ff_X2_22 ks_12 dX2_undoIn_44 ?_
      refine jv_iaload (u2n (by decide)) rfl ks_14 dX2_undoIn_47 g1 ?_
      refine jr_aload_n dX2_undoIn_48 rfl rfl ?_
      refine jr_geta ff_X2_16 ks_12 rr_12_2 dX2_undoIn_49 ?_
      refine jr_aload_n dX2_undoIn_52 rfl rfl ?_
      refine jv_geti u2e ff_X2_22 ks_12 dX2_undoIn_53 ?_
      refine jv_iaload (u2n (by decide)) rfl ks_15 dX2_undoIn_56 g1 ?_
      refine jr_callV (mc2 := 0) (mc := 0) (ms2 := 0) (ms := 0) vm_X2_38 (av := [.int (I 13 (((I 12 4) - (1 : Int32)).toNatClampNeg)), .int (I 14 (((I 12 4) - (1 : Int32)).toNatClampNeg)), .int (I 15 (((I 12 4) - (1 : Int32)).toNatClampNeg))]) (st := []) rfl rfl ks_1 (by decide) rfl (Nat.le_of_ble_eq_true rfl) dX2_undoIn_57 (cV_use (M := (yX7_set, cX7_set, 4, none)) h ?_)
      intro I2 L2 h
      refine jr_iconst dX2_undoIn_60 kic_1 ?_
      exact jr_ireturn dX2_undoIn_61 ⟨Or.inr (Or.inr (Or.inr ⟨rfl, Or.inr rfl⟩)), _, _, rfl, h⟩
    · rw [if_neg c] at h
      refine jr_iconst dX2_undoIn_17 kic_0 ?_
      exact jr_ireturn dX2_undoIn_18 ⟨Or.inr (Or.inr (Or.inr ⟨rfl, Or.inl rfl⟩)), _, _, rfl, h⟩
def wX2_redoIn (G : jG) (l : Launch) (d : Nat) (I : jS) (L : jL) (Q : Option Value → jS → jL → Prop) : Prop := if (I 12 4) < 0 then (Q (some (.int (0 : Int32))) I L) else (if (I 12 5) ≤ (I 12 4) then (Q (some (.int (0 : Int32))) I L) else (if (I 12 4) < (40 : Int32) then (vp_in (I 12 4) 40 ∧ (cV G l mX7_set d [.ref 1, .int (I 13 ((I 12 4).toNatClampNeg)), .int (I 14 ((I 12 4).toNatClampNeg)), .int (I 16 ((I 12 4).toNatClampNeg))] I L (fun I2 L2 => (Q (some (.int (1 : Int32))) (u2 I2 12 4 ((I2 12 4) + (1 : Int32))) L2)))) else (Q (some (.int (0 : Int32))) I L)))
set_option maxRecDepth 100000 in
set_option maxHeartbeats 4000000 in
theorem wX2_redoIn_ok {G : jG} {l : Launch} {d : Nat} {Q : Option Value → jS → jL → Prop} {I : jS} {L : jL} (h : wX2_redoIn G l d I L Q) : cM G l mX2_redoIn (d + 1) [.ref 12, .ref 1] I L Q := by
  rw [wX2_redoIn] at h
  show jCall G l yX2_redoIn cX2_redoIn 2 (some .boolean) (d + 1) 0 0 _ (jKS, I, L, jR0) _
  refine jCall_of (n0 := 0) (ls := [some (.ref 12), some (.ref 1)]) (by decide +kernel) rfl (Nat.le_of_ble_eq_true rfl) (jQm_of ?_)
  refine jr_aload_n dX2_redoIn_0 rfl rfl ?_
  refine jv_geti rfl ff_X2_22 ks_12 dX2_redoIn_1 ?_
  refine jr_if_lt dX2_redoIn_4 (tgt := 27) (by decide) (fun c => ?_) (fun c => ?_)
  · rw [if_pos c] at h
    refine jr_iconst dX2_redoIn_27 kic_0 ?_
    exact jr_ireturn dX2_redoIn_28 ⟨Or.inr (Or.inr (Or.inr ⟨rfl, Or.inl rfl⟩)), _, _, rfl, h⟩
  · rw [if_neg c] at h
    refine jr_aload_n dX2_redoIn_7 rfl rfl ?_
    refine jv_geti rfl ff_X2_22 ks_12 dX2_redoIn_8 ?_
    refine jr_aload_n dX2_redoIn_11 rfl rfl ?_
    refine jv_geti rfl ff_X2_26 ks_12 dX2_redoIn_12 ?_
    refine jr_icmp_ge dX2_redoIn_15 (tgt := 27) (by decide) (fun c => ?_) (fun c => ?_)
    · rw [if_pos c] at h
      refine jr_iconst dX2_redoIn_27 kic_0 ?_
      exact jr_ireturn dX2_redoIn_28 ⟨Or.inr (Or.inr (Or.inr ⟨rfl, Or.inl rfl⟩)), _, _, rfl, h⟩
    · rw [if_neg c] at h
      refine jr_aload_n dX2_redoIn_18 rfl rfl ?_
      refine jv_geti rfl ff_X2_22 ks_12 dX2_redoIn_19 ?_
      refine jr_bipush dX2_redoIn_22 kbp_40 ?_
      refine jr_icmp_lt dX2_redoIn_24 (tgt := 29) (by decide) (fun c => ?_) (fun c => ?_)
      · rw [if_pos c] at h
        refine jr_aload_n dX2_redoIn_29 rfl rfl ?_
        refine jr_aload_n dX2_redoIn_30 rfl rfl ?_
        refine jr_geta ff_X2_9 ks_12 rr_12_0 dX2_redoIn_31 ?_
        refine jr_aload_n dX2_redoIn_34 rfl rfl ?_
        refine jv_geti rfl ff_X2_22 ks_12 dX2_redoIn_35 ?_
        obtain ⟨g1, h⟩ := h
        refine jv_iaload rfl rfl ks_13 dX2_redoIn_38 g1 ?_
        refine jr_aload_n dX2_redoIn_39 rfl rfl ?_
        refine jr_geta ff_X2_13 ks_12 rr_12_1 dX2_redoIn_40 ?_
        refine jr_aload_n dX2_redoIn_43 rfl rfl ?_
        refine jv_geti rfl ff_X2_22 ks_12 dX2_redoIn_44 ?_
        refine jv_iaload rfl rfl ks_14 dX2_redoIn_47 g1 ?_
        refine jr_aload_n dX2_redoIn_48 rfl rfl ?_
        refine jr_geta ff_X2_19 ks_12 rr_12_3 dX2_redoIn_49 ?_
        refine jr_aload_n dX2_redoIn_52 rfl rfl ?_
        refine jv_geti rfl ff_X2_22 ks_12 dX2_redoIn_53 ?_
        refine jv_iaload rfl rfl ks_16 dX2_redoIn_56 g1 ?_
        refine jr_callV (mc2 := 0) (mc := 0) (ms2 := 0) (ms := 0) vm_X2_38 (av := [.int (I 13 ((I 12 4).toNatClampNeg)), .int (I 14 ((I 12 4).toNatClampNeg)), .int (I 16 ((I 12 4).toNatClampNeg))]) (st := []) rfl rfl ks_1 (by decide) rfl (Nat.le_of_ble_eq_true rfl) dX2_redoIn_57 (cV_use (M := (yX7_set, cX7_set, 4, none)) h ?_)
        intro I2 L2 h
        refine jr_aload_n dX2_redoIn_60 rfl rfl ?_
        refine jr_dup dX2_redoIn_61 rfl ?_
        refine jv_geti rfl ff_X2_22 ks_12 dX2_redoIn_62 ?_
        refine jr_iconst dX2_redoIn_65 kic_1 ?_
        refine jr_iadd dX2_redoIn_66 ?_
        refine jr_puti ff_X2_22 ks_12 dX2_redoIn_67 ?_
        refine jr_iconst dX2_redoIn_70 kic_1 ?_
        exact jr_ireturn dX2_redoIn_71 ⟨Or.inr (Or.inr (Or.inr ⟨rfl, Or.inr rfl⟩)), _, _, rfl, h⟩
      · rw [if_neg c] at h
        refine jr_iconst dX2_redoIn_27 kic_0 ?_
        exact jr_ireturn dX2_redoIn_28 ⟨Or.inr (Or.inr (Or.inr ⟨rfl, Or.inl rfl⟩)), _, _, rfl, h⟩

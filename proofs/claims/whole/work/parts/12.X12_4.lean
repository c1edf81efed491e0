def wX12_isBody (G : jG) (l : Launch) (d : Nat) (x1 : Int32) (I : jS) (L : jL) (Q : Option Value → jS → jL → Prop) : Prop := cI G l mX12_within d [.long (x1.toInt64), .long (0 : Int64), .long (((I 71 43) - (1 : Int32)).toInt64)] I L (fun r1 I1 L1 => ((r1 = 0 ∨ r1 = 1) ∧ Q (some (.int r1)) I1 L1))
set_option maxRecDepth 100000 in
set_option maxHeartbeats 4000000 in
theorem wX12_isBody_ok {G : jG} {l : Launch} {d : Nat} {Q : Option Value → jS → jL → Prop} {x1 : Int32} {I : jS} {L : jL} (h : wX12_isBody G l d x1 I L Q) : cM G l mX12_isBody (d + 1) [.ref 71, .int x1] I L Q := by
  rw [wX12_isBody] at h
  show jCall G l yX12_isBody cX12_isBody 2 (some .boolean) (d + 1) 0 0 _ (jKS, I, L, jR0) _
  refine jCall_of (n0 := 0) (ls := [some (.ref 71), some (.int x1)]) (by decide +kernel) rfl (Nat.le_of_ble_eq_true rfl) (jQm_of ?_)
  refine jr_iload_n dX12_isBody_0 rfl rfl ?_
  refine jr_i2l dX12_isBody_1 ?_
  refine jr_lconst dX12_isBody_2 klc_0 ?_
  refine jr_aload_n dX12_isBody_3 rfl rfl ?_
  refine jv_geti rfl ff_X12_367 ks_71 dX12_isBody_4 ?_
  refine jr_iconst dX12_isBody_7 kic_1 ?_
  refine jr_isub dX12_isBody_8 ?_
  refine jr_i2l dX12_isBody_9 ?_
  refine jr_callS (mc2 := 0) (mc := 0) (ms2 := 0) (ms := 0) vm_X12_96 (av := [.long (x1.toInt64), .long (0 : Int64), .long (((I 71 43) - (1 : Int32)).toInt64)]) (st := []) rfl rfl (Nat.le_of_ble_eq_true rfl) dX12_isBody_10 (cI_use (M := (yX12_within, cX12_within, 6, some .boolean)) h ?_)
  intro r1 I1 L1 h
  obtain ⟨gz, h⟩ := h
  exact jr_ireturn dX12_isBody_13 ⟨Or.inr (Or.inr (Or.inr ⟨rfl, gz.imp (fun e => by rw [e]) (fun e => by rw [e])⟩)), _, _, rfl, h⟩
def wX12_kindOf (G : jG) (l : Launch) (d : Nat) (x1 : Int32) (I : jS) (L : jL) (Q : Option Value → jS → jL → Prop) : Prop := vp_in x1 50 ∧ (Q (some (.int (I 87 x1.toNatClampNeg))) I L)
set_option maxRecDepth 100000 in
set_option maxHeartbeats 4000000 in
theorem wX12_kindOf_ok {G : jG} {l : Launch} {d : Nat} {Q : Option Value → jS → jL → Prop} {x1 : Int32} {I : jS} {L : jL} (h : wX12_kindOf G l d x1 I L Q) : cM G l mX12_kindOf (d + 1) [.ref 71, .int x1] I L Q := by
  rw [wX12_kindOf] at h
  show jCall G l yX12_kindOf cX12_kindOf 2 (some .int) (d + 1) 0 0 _ (jKS, I, L, jR0) _
  refine jCall_of (n0 := 0) (ls := [some (.ref 71), some (.int x1)]) (by decide +kernel) rfl (Nat.le_of_ble_eq_true rfl) (jQm_of ?_)
  refine jr_aload_n dX12_kindOf_0 rfl rfl ?_
  refine jr_geta ff_X12_62 ks_71 rr_71_44 dX12_kindOf_1 ?_
  refine jr_iload_n dX12_kindOf_4 rfl rfl ?_
  obtain ⟨g1, h⟩ := h
  refine jv_iaload rfl rfl ks_87 dX12_kindOf_5 g1 ?_
  exact jr_ireturn dX12_kindOf_6 ⟨Or.inr (Or.inl ⟨rfl, _, rfl⟩), _, _, rfl, h⟩
def wX12_body (G : jG) (l : Launch) (d : Nat) (x1 : Int32) (I : jS) (L : jL) (Q : Option Value → jS → jL → Prop) : Prop := cI G l mX12_within d [.long (x1.toInt64), .long (0 : Int64), .long (7 : Int64)] I L (fun r1 I1 L1 => (if r1 = 0 then (Q (some (.int (-1 : Int32))) I1 L1) else (if (I1 71 43) = (50 : Int32) then (Q (some (.int (-3 : Int32))) I1 L1) else (vp_in (I1 71 43) 50 ∧ (Q (some (.int (((I1 71 43) + (1 : Int32)) - (1 : Int32)))) (u2 (u2 I1 87 ((I1 71 43).toNatClampNeg) x1) 71 43 ((I1 71 43) + (1 : Int32))) L1)))))
set_option maxRecDepth 100000 in
set_option maxHeartbeats 4000000 in
theorem wX12_body_ok {G : jG} {l : Launch} {d : Nat} {Q : Option Value → jS → jL → Prop} {x1 : Int32} {I : jS} {L : jL} (h : wX12_body G l d x1 I L Q) : cM G l mX12_body (d + 1) [.ref 71, .int x1] I L Q := by
  rw [wX12_body] at h
  show jCall G l yX12_body cX12_body 2 (some .int) (d + 1) 0 0 _ (jKS, I, L, jR0) _
  refine jCall_of (n0 := 0) (ls := [some (.ref 71), some (.int x1)]) (by decide +kernel) rfl (Nat.le_of_ble_eq_true rfl) (jQm_of ?_)
  refine jr_iload_n dX12_body_0 rfl rfl ?_
  refine jr_i2l dX12_body_1 ?_
  refine jr_lconst dX12_body_2 klc_0 ?_
  refine jr_ldc2 kl_X12_114 dX12_body_3 ?_
  refine jr_callS (mc2 := 0) (mc := 0) (ms2 := 0) (ms := 0) vm_X12_96 (av := [.long (x1.toInt64), .long (0 : Int64), .long (7 : Int64)]) (st := []) rfl rfl (Nat.le_of_ble_eq_true rfl) dX12_body_6 (cI_use (M := (yX12_within, cX12_within, 6, some .boolean)) h ?_)
  intro r1 I1 L1 h
  refine jr_if_ne dX12_body_9 (tgt := 14) (by decide) (fun c => ?_) (fun c => ?_)
  · rw [if_neg c] at h
    refine jr_aload_n dX12_body_14 rfl rfl ?_
    refine jv_geti rfl ff_X12_367 ks_71 dX12_body_15 ?_
    refine jr_bipush dX12_body_18 kbp_50 ?_
    refine jr_icmp_ne dX12_body_20 (tgt := 26) (by decide) (fun c => ?_) (fun c => ?_)
    · rw [if_neg c] at h
      refine jr_aload_n dX12_body_26 rfl rfl ?_
      refine jr_geta ff_X12_62 ks_71 rr_71_44 dX12_body_27 ?_
      refine jr_aload_n dX12_body_30 rfl rfl ?_
      refine jv_geti rfl ff_X12_367 ks_71 dX12_body_31 ?_
      refine jr_iload_n dX12_body_34 rfl rfl ?_
      obtain ⟨g2, h⟩ := h
      refine jr_iastore rfl ks_87 dX12_body_35 g2 ?_
      refine jr_aload_n dX12_body_36 rfl rfl ?_
      refine jr_dup dX12_body_37 rfl ?_
      refine jv_geti (u2n (by decide)) ff_X12_367 ks_71 dX12_body_38 ?_
      refine jr_iconst dX12_body_41 kic_1 ?_
      refine jr_iadd dX12_body_42 ?_
      refine jr_puti ff_X12_367 ks_71 dX12_body_43 ?_
      refine jr_aload_n dX12_body_46 rfl rfl ?_
      refine jv_geti u2e ff_X12_367 ks_71 dX12_body_47 ?_
      refine jr_iconst dX12_body_50 kic_1 ?_
      refine jr_isub dX12_body_51 ?_
      exact jr_ireturn dX12_body_52 ⟨Or.inr (Or.inl ⟨rfl, _, rfl⟩), _, _, rfl, h⟩
    · rw [if_pos c] at h
      refine jr_bipush dX12_body_23 kbp_m3 ?_
      exact jr_ireturn dX12_body_25 ⟨Or.inr (Or.inl ⟨rfl, _, rfl⟩), _, _, rfl, h⟩
  · rw [if_pos c] at h
    refine jr_iconst dX12_body_12 kic_m1 ?_
    exact jr_ireturn dX12_body_13 ⟨Or.inr (Or.inl ⟨rfl, _, rfl⟩), _, _, rfl, h⟩
def wX12_above (G : jG) (l : Launch) (d : Nat) (x0 : Int32) (I : jS) (L : jL) (Q : Option Value → jS → jL → Prop) : Prop := if x0 = (3 : Int32) then (Q (some (.int (2 : Int32))) I L) else (if x0 = (4 : Int32) then (Q (some (.int (1 : Int32))) I L) else (if x0 = (5 : Int32) then (Q (some (.int (3 : Int32))) I L) else (if x0 = (7 : Int32) then (Q (some (.int (4 : Int32))) I L) else (Q (some (.int (0 : Int32))) I L))))
set_option maxRecDepth 100000 in
set_option maxHeartbeats 4000000 in
theorem wX12_above_ok {G : jG} {l : Launch} {d : Nat} {Q : Option Value → jS → jL → Prop} {x0 : Int32} {I : jS} {L : jL} (h : wX12_above G l d x0 I L Q) : cM G l mX12_above (d + 1) [.int x0] I L Q := by
  rw [wX12_above] at h
  show jCall G l yX12_above cX12_above 1 (some .int) (d + 1) 0 0 _ (jKS, I, L, jR0) _
  refine jCall_of (n0 := 0) (ls := [some (.int x0)]) (by decide +kernel) rfl (Nat.le_of_ble_eq_true rfl) (jQm_of ?_)
  refine jr_iload_n dX12_above_0 rfl rfl ?_
  refine jr_iconst dX12_above_1 kic_3 ?_
  refine jr_icmp_ne dX12_above_2 (tgt := 9) (by decide) (fun c => ?_) (fun c => ?_)
  · rw [if_neg c] at h
    refine jr_iload_n dX12_above_9 rfl rfl ?_
    refine jr_iconst dX12_above_10 kic_4 ?_
    refine jr_icmp_ne dX12_above_11 (tgt := 18) (by decide) (fun c => ?_) (fun c => ?_)
    · rw [if_neg c] at h
      refine jr_iload_n dX12_above_18 rfl rfl ?_
      refine jr_iconst dX12_above_19 kic_5 ?_
      refine jr_icmp_ne dX12_above_20 (tgt := 27) (by decide) (fun c => ?_) (fun c => ?_)
      · rw [if_neg c] at h
        refine jr_iload_n dX12_above_27 rfl rfl ?_
        refine jr_bipush dX12_above_28 kbp_7 ?_
        refine jr_icmp_ne dX12_above_30 (tgt := 37) (by decide) (fun c => ?_) (fun c => ?_)
        · rw [if_neg c] at h
          refine jr_iconst dX12_above_37 kic_0 ?_
          exact jr_ireturn dX12_above_38 ⟨Or.inr (Or.inl ⟨rfl, _, rfl⟩), _, _, rfl, h⟩
        · rw [if_pos c] at h
          refine jr_iconst dX12_above_33 kic_4 ?_
          refine jr_goto dX12_above_34 (tgt := 38) (by decide) ?_
          exact jr_ireturn dX12_above_38 ⟨Or.inr (Or.inl ⟨rfl, _, rfl⟩), _, _, rfl, h⟩
      · rw [if_pos c] at h
        refine jr_iconst dX12_above_23 kic_3 ?_
        refine jr_goto dX12_above_24 (tgt := 38) (by decide) ?_
        exact jr_ireturn dX12_above_38 ⟨Or.inr (Or.inl ⟨rfl, _, rfl⟩), _, _, rfl, h⟩
    · rw [if_pos c] at h
      refine jr_iconst dX12_above_14 kic_1 ?_
      refine jr_goto dX12_above_15 (tgt := 38) (by decide) ?_
      exact jr_ireturn dX12_above_38 ⟨Or.inr (Or.inl ⟨rfl, _, rfl⟩), _, _, rfl, h⟩
  · rw [if_pos c] at h
    refine jr_iconst dX12_above_5 kic_2 ?_
    refine jr_goto dX12_above_6 (tgt := 38) (by decide) ?_
    exact jr_ireturn dX12_above_38 ⟨Or.inr (Or.inl ⟨rfl, _, rfl⟩), _, _, rfl, h⟩
def wX12_begins_19 (G : jG) (l : Launch) (d : Nat) (Q : Option Value → jS → jL → Prop) (I : jS) (L : jL) : Prop := Q none (u2 I 71 46 ((I 71 46) + (1 : Int32))) L
set_option maxRecDepth 100000 in
set_option maxHeartbeats 4000000 in
theorem wX12_begins_19_ok {G : jG} {l : Launch} {d : Nat} {Q : Option Value → jS → jL → Prop} : ∀ (I : jS) (L : jL), wX12_begins_19 G l d Q I L → J G l yX12_begins cX12_begins 2 (d + 1) 0 0 19 [some (.ref 71), none] [] (jKS, I, L, jR0) (jQm (none) Q) := by
  intro I L h
  rw [wX12_begins_19] at h
  refine jr_aload_n dX12_begins_19 rfl rfl ?_
  refine jr_dup dX12_begins_20 rfl ?_
  refine jv_geti rfl ff_X12_370 ks_71 dX12_begins_21 ?_
  refine jr_iconst dX12_begins_24 kic_1 ?_
  refine jr_iadd dX12_begins_25 ?_
  refine jr_puti ff_X12_370 ks_71 dX12_begins_26 ?_
  exact jr_return dX12_begins_29 ⟨Or.inl ⟨rfl, rfl⟩, _, _, rfl, h⟩
def wX12_begins (G : jG) (l : Launch) (d : Nat) (x1 : Int32) (I : jS) (L : jL) (Q : Option Value → jS → jL → Prop) : Prop := if (24 : Int32) ≤ (I 71 46) then (wX12_begins_19 G l d Q I L) else (vp_in (I 71 46) 24 ∧ (wX12_begins_19 G l d Q (u2 I 88 ((I 71 46).toNatClampNeg) x1) L))
set_option maxRecDepth 100000 in
set_option maxHeartbeats 4000000 in
theorem wX12_begins_ok {G : jG} {l : Launch} {d : Nat} {Q : Option Value → jS → jL → Prop} {x1 : Int32} {I : jS} {L : jL} (h : wX12_begins G l d x1 I L Q) : cM G l mX12_begins (d + 1) [.ref 71, .int x1] I L Q := by
  rw [wX12_begins] at h
  show jCall G l yX12_begins cX12_begins 2 (none) (d + 1) 0 0 _ (jKS, I, L, jR0) _
  refine jCall_of (n0 := 0) (ls := [some (.ref 71), some (.int x1)]) (by decide +kernel) rfl (Nat.le_of_ble_eq_true rfl) (jQm_of ?_)
  refine jr_aload_n dX12_begins_0 rfl rfl ?_
  refine jv_geti rfl ff_X12_370 ks_71 dX12_begins_1 ?_
  refine jr_bipush dX12_begins_4 kbp_24 ?_
  refine jr_icmp_ge dX12_begins_6 (tgt := 19) (by decide) (fun c => ?_) (fun c => ?_)
  · rw [if_pos c] at h
    exact J.sub (wX12_begins_19_ok  _ _ h) (jsub_some (jsub_none jsub_nil))
  · rw [if_neg c] at h
    refine jr_aload_n dX12_begins_9 rfl rfl ?_
    refine jr_geta ff_X12_65 ks_71 rr_71_45 dX12_begins_10 ?_
    refine jr_aload_n dX12_begins_13 rfl rfl ?_
    refine jv_geti rfl ff_X12_370 ks_71 dX12_begins_14 ?_
    refine jr_iload_n dX12_begins_17 rfl rfl ?_
    obtain ⟨g1, h⟩ := h
    refine jr_iastore rfl ks_88 dX12_begins_18 g1 ?_
    exact J.sub (wX12_begins_19_ok  _ _ h) (jsub_some (jsub_none jsub_nil))
def wX12_goesAs_16 (G : jG) (l : Launch) (d : Nat) (Q : Option Value → jS → jL → Prop) (x2 : Int32) (I : jS) (L : jL) : Prop := cV G l mX12_begins d [.ref 71, .int (20 : Int32)] I L (fun I1 L1 => (cI G l mX12_goesAs d [.ref 71, .int (0 : Int32), .int x2] I1 L1 (fun r2 I2 L2 => (Q (some (.int (r2 + (3 : Int32)))) I2 L2))))
set_option maxRecDepth 100000 in
set_option maxHeartbeats 4000000 in
theorem wX12_goesAs_16_ok {G : jG} {l : Launch} {d : Nat} {Q : Option Value → jS → jL → Prop} : ∀ (x2 : Int32) (I : jS) (L : jL), wX12_goesAs_16 G l d Q x2 I L → J G l yX12_goesAs cX12_goesAs 3 (d + 1) 0 0 16 [some (.ref 71), none, some (.int x2)] [] (jKS, I, L, jR0) (jQm (some .int) Q) := by
  intro x2 I L h
  rw [wX12_goesAs_16] at h
  refine jr_aload_n dX12_goesAs_16 rfl rfl ?_
  refine jr_bipush dX12_goesAs_17 kbp_20 ?_
  refine jr_callV (mc2 := 0) (mc := 0) (ms2 := 0) (ms := 0) vm_X12_373 (av := [.int (20 : Int32)]) (st := []) rfl rfl ks_71 (by decide) rfl (Nat.le_of_ble_eq_true rfl) dX12_goesAs_19 (cV_use (M := (yX12_begins, cX12_begins, 2, none)) h ?_)
  intro I1 L1 h
  refine jr_aload_n dX12_goesAs_22 rfl rfl ?_
  refine jr_iconst dX12_goesAs_23 kic_0 ?_
  refine jr_iload_n dX12_goesAs_24 rfl rfl ?_
  refine jr_callV (mc2 := 0) (mc := 0) (ms2 := 0) (ms := 0) vm_X12_376 (av := [.int (0 : Int32), .int x2]) (st := []) rfl rfl ks_71 (by decide) rfl (Nat.le_of_ble_eq_true rfl) dX12_goesAs_25 (cI_use (M := (yX12_goesAs, cX12_goesAs, 3, some .int)) h ?_)
  intro r2 I2 L2 h
  refine jr_iconst dX12_goesAs_28 kic_3 ?_
  refine jr_iadd dX12_goesAs_29 ?_
  exact jr_ireturn dX12_goesAs_30 ⟨Or.inr (Or.inl ⟨rfl, _, rfl⟩), _, _, rfl, h⟩
def wX12_goesAs (G : jG) (l : Launch) (d : Nat) (x1 : Int32) (x2 : Int32) (I : jS) (L : jL) (Q : Option Value → jS → jL → Prop) : Prop := if x1 = (1 : Int32) then (wX12_goesAs_16 G l d Q x2 I L) else (if x1 = (4 : Int32) then (wX12_goesAs_16 G l d Q x2 I L) else (if x1 = (7 : Int32) then (wX12_goesAs_16 G l d Q x2 I L) else (if x1 = (6 : Int32) then (cV G l mX12_begins d [.ref 71, .int (70 : Int32)] I L (fun I2 L2 => (cI G l mX12_goesAs d [.ref 71, .int (0 : Int32), .int x2] I2 L2 (fun r3 I3 L3 => (Q (some (.int (r3 * (2 : Int32)))) I3 L3))))) else (cV G l mX12_begins d [.ref 71, .int (1 : Int32)] I L (fun I1 L1 => (Q (some (.int (x2 + (I1 71 48)))) I1 L1))))))
set_option maxRecDepth 100000 in
set_option maxHeartbeats 4000000 in
theorem wX12_goesAs_ok {G : jG} {l : Launch} {d : Nat} {Q : Option Value → jS → jL → Prop} {x1 : Int32} {x2 : Int32} {I : jS} {L : jL} (h : wX12_goesAs G l d x1 x2 I L Q) : cM G l mX12_goesAs (d + 1) [.ref 71, .int x1, .int x2] I L Q := by
  rw [wX12_goesAs] at h
  show jCall G l yX12_goesAs cX12_goesAs 3 (some .int) (d + 1) 0 0 _ (jKS, I, L, jR0) _
  refine jCall_of (n0 := 0) (ls := [some (.ref 71), some (.int x1), some (.int x2)]) (by decide +kernel) rfl (Nat.le_of_ble_eq_true rfl) (jQm_of ?_)
  refine jr_iload_n dX12_goesAs_0 rfl rfl ?_
  refine jr_iconst dX12_goesAs_1 kic_1 ?_
  refine jr_icmp_eq dX12_goesAs_2 (tgt := 16) (by decide) (fun c => ?_) (fun c => ?_)
  · rw [if_pos c] at h
    exact J.sub (wX12_goesAs_16_ok  _ _ _ h) (jsub_some (jsub_none (jsub_some jsub_nil)))
  · rw [if_neg c] at h
    refine jr_iload_n dX12_goesAs_5 rfl rfl ?_
    refine jr_iconst dX12_goesAs_6 kic_4 ?_
    refine jr_icmp_eq dX12_goesAs_7 (tgt := 16) (by decide) (fun c => ?_) (fun c => ?_)
    · rw [if_pos c] at h
      exact J.sub (wX12_goesAs_16_ok  _ _ _ h) (jsub_some (jsub_none (jsub_some jsub_nil)))
    · rw [if_neg c] at h
      refine jr_iload_n dX12_goesAs_10 rfl rfl ?_
      refine jr_bipush dX12_goesAs_11 kbp_7 ?_
      refine jr_icmp_ne dX12_goesAs_13 (tgt := 31) (by decide) (fun c => ?_) (fun c => ?_)
      · rw [if_neg c] at h
        refine jr_iload_n dX12_goesAs_31 rfl rfl ?_
        refine jr_bipush dX12_goesAs_32 kbp_6 ?_
        refine jr_icmp_ne dX12_goesAs_34 (tgt := 52) (by decide) (fun c => ?_) (fun c => ?_)
        · rw [if_neg c] at h
          refine jr_aload_n dX12_goesAs_52 rfl rfl ?_
          refine jr_iconst dX12_goesAs_53 kic_1 ?_
          refine jr_callV (mc2 := 0) (mc := 0) (ms2 := 0) (ms := 0) vm_X12_373 (av := [.int (1 : Int32)]) (st := []) rfl rfl ks_71 (by decide) rfl (Nat.le_of_ble_eq_true rfl) dX12_goesAs_54 (cV_use (M := (yX12_begins, cX12_begins, 2, none)) h ?_)
          intro I1 L1 h
          refine jr_iload_n dX12_goesAs_57 rfl rfl ?_
          refine jr_aload_n dX12_goesAs_58 rfl rfl ?_
          refine jv_geti rfl ff_X12_379 ks_71 dX12_goesAs_59 ?_
          refine jr_iadd dX12_goesAs_62 ?_
          exact jr_ireturn dX12_goesAs_63 ⟨Or.inr (Or.inl ⟨rfl, _, rfl⟩), _, _, rfl, h⟩
        · rw [if_pos c] at h
          refine jr_aload_n dX12_goesAs_37 rfl rfl ?_
          refine jr_bipush dX12_goesAs_38 kbp_70 ?_
          refine jr_callV (mc2 := 0) (mc := 0) (ms2 := 0) (ms := 0) vm_X12_373 (av := [.int (70 : Int32)]) (st := []) rfl rfl ks_71 (by decide) rfl (Nat.le_of_ble_eq_true rfl) dX12_goesAs_40 (cV_use (M := (yX12_begins, cX12_begins, 2, none)) h ?_)
          intro I2 L2 h
          refine jr_aload_n dX12_goesAs_43 rfl rfl ?_
          refine jr_iconst dX12_goesAs_44 kic_0 ?_
          refine jr_iload_n dX12_goesAs_45 rfl rfl ?_
          refine jr_callV (mc2 := 0) (mc := 0) (ms2 := 0) (ms := 0) vm_X12_376 (av := [.int (0 : Int32), .int x2]) (st := []) rfl rfl ks_71 (by decide) rfl (Nat.le_of_ble_eq_true rfl) dX12_goesAs_46 (cI_use (M := (yX12_goesAs, cX12_goesAs, 3, some .int)) h ?_)
          intro r3 I3 L3 h
          refine jr_iconst dX12_goesAs_49 kic_2 ?_
          refine jr_imul dX12_goesAs_50 ?_
          exact jr_ireturn dX12_goesAs_51 ⟨Or.inr (Or.inl ⟨rfl, _, rfl⟩), _, _, rfl, h⟩
      · rw [if_pos c] at h
        exact J.sub (wX12_goesAs_16_ok  _ _ _ h) (jsub_some (jsub_none (jsub_some jsub_nil)))
def wX12_bearsAs_10 (G : jG) (l : Launch) (d : Nat) (Q : Option Value → jS → jL → Prop) (x2 : Int32) (I : jS) (L : jL) : Prop := cV G l mX12_begins d [.ref 71, .int (41 : Int32)] I L (fun I1 L1 => (cI G l mX12_bearsAs d [.ref 71, .int (2 : Int32), .int (x2 + (1 : Int32))] I1 L1 (fun r2 I2 L2 => (Q (some (.int r2)) I2 L2))))
set_option maxRecDepth 100000 in
set_option maxHeartbeats 4000000 in
theorem wX12_bearsAs_10_ok {G : jG} {l : Launch} {d : Nat} {Q : Option Value → jS → jL → Prop} : ∀ (x2 : Int32) (I : jS) (L : jL), wX12_bearsAs_10 G l d Q x2 I L → J G l yX12_bearsAs cX12_bearsAs 4 (d + 1) 0 0 10 [some (.ref 71), none, some (.int x2), none] [] (jKS, I, L, jR0) (jQm (some .int) Q) := by
  intro x2 I L h
  rw [wX12_bearsAs_10] at h
  refine jr_aload_n dX12_bearsAs_10 rfl rfl ?_
  refine jr_bipush dX12_bearsAs_11 kbp_41 ?_
  refine jr_callV (mc2 := 0) (mc := 0) (ms2 := 0) (ms := 0) vm_X12_373 (av := [.int (41 : Int32)]) (st := []) rfl rfl ks_71 (by decide) rfl (Nat.le_of_ble_eq_true rfl) dX12_bearsAs_13 (cV_use (M := (yX12_begins, cX12_begins, 2, none)) h ?_)
  intro I1 L1 h
  refine jr_aload_n dX12_bearsAs_16 rfl rfl ?_
  refine jr_iconst dX12_bearsAs_17 kic_2 ?_
  refine jr_iload_n dX12_bearsAs_18 rfl rfl ?_
  refine jr_iconst dX12_bearsAs_19 kic_1 ?_
  refine jr_iadd dX12_bearsAs_20 ?_
  refine jr_callV (mc2 := 0) (mc := 0) (ms2 := 0) (ms := 0) vm_X12_382 (av := [.int (2 : Int32), .int (x2 + (1 : Int32))]) (st := []) rfl rfl ks_71 (by decide) rfl (Nat.le_of_ble_eq_true rfl) dX12_bearsAs_21 (cI_use (M := (yX12_bearsAs, cX12_bearsAs, 4, some .int)) h ?_)
  intro r2 I2 L2 h
  exact jr_ireturn dX12_bearsAs_24 ⟨Or.inr (Or.inl ⟨rfl, _, rfl⟩), _, _, rfl, h⟩
def wX12_bearsAs (G : jG) (l : Launch) (d : Nat) (x1 : Int32) (x2 : Int32) (I : jS) (L : jL) (Q : Option Value → jS → jL → Prop) : Prop := if x1 = (3 : Int32) then (wX12_bearsAs_10 G l d Q x2 I L) else (if x1 = (5 : Int32) then (wX12_bearsAs_10 G l d Q x2 I L) else (if x1 = (2 : Int32) then (cV G l mX12_begins d [.ref 71, .int (30 : Int32)] I L (fun I6 L6 => (cI G l mX12_bearsAs d [.ref 71, .int (0 : Int32), .int x2] I6 L6 (fun r7 I7 L7 => (Q (some (.int (-r7))) I7 L7))))) else (if x1 = (7 : Int32) then (cV G l mX12_begins d [.ref 71, .int (80 : Int32)] I L (fun I3 L3 => (cI G l mX12_bearsAs d [.ref 71, .int (4 : Int32), .int x2] I3 L3 (fun r4 I4 L4 => (cI G l mX12_waitsAs d [.ref 71, .int (I4 71 47), .int (2 : Int32)] I4 L4 (fun r5 I5 L5 => (Q (some (.int (r4 + r5))) I5 L5))))))) else (cV G l mX12_begins d [.ref 71, .int (10 : Int32)] I L (fun I1 L1 => (cI G l mX12_goesAs d [.ref 71, .int (I1 71 47), .int x2] I1 L1 (fun r2 I2 L2 => (Q (some (.int (r2 * (2 : Int32)))) I2 L2))))))))
set_option maxRecDepth 100000 in
set_option maxHeartbeats 4000000 in
theorem wX12_bearsAs_ok {G : jG} {l : Launch} {d : Nat} {Q : Option Value → jS → jL → Prop} {x1 : Int32} {x2 : Int32} {I : jS} {L : jL} (h : wX12_bearsAs G l d x1 x2 I L Q) : cM G l mX12_bearsAs (d + 1) [.ref 71, .int x1, .int x2] I L Q := by
  rw [wX12_bearsAs] at h
  show jCall G l yX12_bearsAs cX12_bearsAs 4 (some .int) (d + 1) 0 0 _ (jKS, I, L, jR0) _
  refine jCall_of (n0 := 1) (ls := [some (.ref 71), some (.int x1), some (.int x2), none]) (by decide +kernel) rfl (Nat.le_of_ble_eq_true rfl) (jQm_of ?_)
  refine jr_iload_n dX12_bearsAs_0 rfl rfl ?_
  refine jr_iconst dX12_bearsAs_1 kic_3 ?_
  refine jr_icmp_eq dX12_bearsAs_2 (tgt := 10) (by decide) (fun c => ?_) (fun c => ?_)
  · rw [if_pos c] at h
    exact J.sub (wX12_bearsAs_10_ok  _ _ _ h) (jsub_some (jsub_none (jsub_some (jsub_none jsub_nil))))
  · rw [if_neg c] at h
    refine jr_iload_n dX12_bearsAs_5 rfl rfl ?_
    refine jr_iconst dX12_bearsAs_6 kic_5 ?_
    refine jr_icmp_ne dX12_bearsAs_7 (tgt := 25) (by decide) (fun c => ?_) (fun c => ?_)
    · rw [if_neg c] at h
      refine jr_iload_n dX12_bearsAs_25 rfl rfl ?_
      refine jr_iconst dX12_bearsAs_26 kic_2 ?_
      refine jr_icmp_ne dX12_bearsAs_27 (tgt := 44) (by decide) (fun c => ?_) (fun c => ?_)
      · rw [if_neg c] at h
        refine jr_iload_n dX12_bearsAs_44 rfl rfl ?_
        refine jr_bipush dX12_bearsAs_45 kbp_7 ?_
        refine jr_icmp_ne dX12_bearsAs_47 (tgt := 75) (by decide) (fun c => ?_) (fun c => ?_)
        · rw [if_neg c] at h
          refine jr_aload_n dX12_bearsAs_75 rfl rfl ?_
          refine jr_bipush dX12_bearsAs_76 kbp_10 ?_
          refine jr_callV (mc2 := 0) (mc := 0) (ms2 := 0) (ms := 0) vm_X12_373 (av := [.int (10 : Int32)]) (st := []) rfl rfl ks_71 (by decide) rfl (Nat.le_of_ble_eq_true rfl) dX12_bearsAs_78 (cV_use (M := (yX12_begins, cX12_begins, 2, none)) h ?_)
          intro I1 L1 h
          refine jr_aload_n dX12_bearsAs_81 rfl rfl ?_
          refine jr_aload_n dX12_bearsAs_82 rfl rfl ?_
          refine jv_geti rfl ff_X12_385 ks_71 dX12_bearsAs_83 ?_
          refine jr_iload_n dX12_bearsAs_86 rfl rfl ?_
          refine jr_callV (mc2 := 0) (mc := 0) (ms2 := 0) (ms := 0) vm_X12_376 (av := [.int (I1 71 47), .int x2]) (st := []) rfl rfl ks_71 (by decide) rfl (Nat.le_of_ble_eq_true rfl) dX12_bearsAs_87 (cI_use (M := (yX12_goesAs, cX12_goesAs, 3, some .int)) h ?_)
          intro r2 I2 L2 h
          refine jr_iconst dX12_bearsAs_90 kic_2 ?_
          refine jr_imul dX12_bearsAs_91 ?_
          exact jr_ireturn dX12_bearsAs_92 ⟨Or.inr (Or.inl ⟨rfl, _, rfl⟩), _, _, rfl, h⟩
        · rw [if_pos c] at h
          refine jr_aload_n dX12_bearsAs_50 rfl rfl ?_
          refine jr_bipush dX12_bearsAs_51 kbp_80 ?_
          refine jr_callV (mc2 := 0) (mc := 0) (ms2 := 0) (ms := 0) vm_X12_373 (av := [.int (80 : Int32)]) (st := []) rfl rfl ks_71 (by decide) rfl (Nat.le_of_ble_eq_true rfl) dX12_bearsAs_53 (cV_use (M := (yX12_begins, cX12_begins, 2, none)) h ?_)
          intro I3 L3 h
          refine jr_aload_n dX12_bearsAs_56 rfl rfl ?_
          refine jr_iconst dX12_bearsAs_57 kic_4 ?_
          refine jr_iload_n dX12_bearsAs_58 rfl rfl ?_
          refine jr_callV (mc2 := 0) (mc := 0) (ms2 := 0) (ms := 0) vm_X12_382 (av := [.int (4 : Int32), .int x2]) (st := []) rfl rfl ks_71 (by decide) rfl (Nat.le_of_ble_eq_true rfl) dX12_bearsAs_59 (cI_use (M := (yX12_bearsAs, cX12_bearsAs, 4, some .int)) h ?_)
          intro r4 I4 L4 h
          refine jr_istore_n dX12_bearsAs_62 rfl (by decide) rfl ?_
          refine jr_iload_n dX12_bearsAs_63 rfl rfl ?_
          refine jr_aload_n dX12_bearsAs_64 rfl rfl ?_
          refine jr_aload_n dX12_bearsAs_65 rfl rfl ?_
          refine jv_geti rfl ff_X12_385 ks_71 dX12_bearsAs_66 ?_
          refine jr_iconst dX12_bearsAs_69 kic_2 ?_
          refine jr_callV (mc2 := 0) (mc := 0) (ms2 := 0) (ms := 0) vm_X12_388 (av := [.int (I4 71 47), .int (2 : Int32)]) (st := [.int r4]) rfl rfl ks_71 (by decide) rfl (Nat.le_of_ble_eq_true rfl) dX12_bearsAs_70 (cI_use (M := (yX12_waitsAs, cX12_waitsAs, 4, some .int)) h ?_)
          intro r5 I5 L5 h
          refine jr_iadd dX12_bearsAs_73 ?_
          exact jr_ireturn dX12_bearsAs_74 ⟨Or.inr (Or.inl ⟨rfl, _, rfl⟩), _, _, rfl, h⟩
      · rw [if_pos c] at h
        refine jr_aload_n dX12_bearsAs_30 rfl rfl ?_
        refine jr_bipush dX12_bearsAs_31 kbp_30 ?_
        refine jr_callV (mc2 := 0) (mc := 0) (ms2 := 0) (ms := 0) vm_X12_373 (av := [.int (30 : Int32)]) (st := []) rfl rfl ks_71 (by decide) rfl (Nat.le_of_ble_eq_true rfl) dX12_bearsAs_33 (cV_use (M := (yX12_begins, cX12_begins, 2, none)) h ?_)
        intro I6 L6 h
        refine jr_aload_n dX12_bearsAs_36 rfl rfl ?_
        refine jr_iconst dX12_bearsAs_37 kic_0 ?_
        refine jr_iload_n dX12_bearsAs_38 rfl rfl ?_
        refine jr_callV (mc2 := 0) (mc := 0) (ms2 := 0) (ms := 0) vm_X12_382 (av := [.int (0 : Int32), .int x2]) (st := []) rfl rfl ks_71 (by decide) rfl (Nat.le_of_ble_eq_true rfl) dX12_bearsAs_39 (cI_use (M := (yX12_bearsAs, cX12_bearsAs, 4, some .int)) h ?_)
        intro r7 I7 L7 h
        refine jr_ineg dX12_bearsAs_42 ?_
        exact jr_ireturn dX12_bearsAs_43 ⟨Or.inr (Or.inl ⟨rfl, _, rfl⟩), _, _, rfl, h⟩
    · rw [if_pos c] at h
      exact J.sub (wX12_bearsAs_10_ok  _ _ _ h) (jsub_some (jsub_none (jsub_some (jsub_none jsub_nil))))
def wX12_waitsAs_10 (G : jG) (l : Launch) (d : Nat) (Q : Option Value → jS → jL → Prop) (x2 : Int32) (I : jS) (L : jL) : Prop := cV G l mX12_begins d [.ref 71, .int (40 : Int32)] I L (fun I1 L1 => (cI G l mX12_waitsAs d [.ref 71, .int (2 : Int32), .int x2] I1 L1 (fun r2 I2 L2 => (Q (some (.int (r2 * (3 : Int32)))) I2 L2))))
set_option maxRecDepth 100000 in
set_option maxHeartbeats 4000000 in
theorem wX12_waitsAs_10_ok {G : jG} {l : Launch} {d : Nat} {Q : Option Value → jS → jL → Prop} : ∀ (x2 : Int32) (I : jS) (L : jL), wX12_waitsAs_10 G l d Q x2 I L → J G l yX12_waitsAs cX12_waitsAs 4 (d + 1) 0 0 10 [some (.ref 71), none, some (.int x2), none] [] (jKS, I, L, jR0) (jQm (some .int) Q) := by
  intro x2 I L h
  rw [wX12_waitsAs_10] at h
  refine jr_aload_n dX12_waitsAs_10 rfl rfl ?_
  refine jr_bipush dX12_waitsAs_11 kbp_40 ?_
  refine jr_callV (mc2 := 0) (mc := 0) (ms2 := 0) (ms := 0) vm_X12_373 (av := [.int (40 : Int32)]) (st := []) rfl rfl ks_71 (by decide) rfl (Nat.le_of_ble_eq_true rfl) dX12_waitsAs_13 (cV_use (M := (yX12_begins, cX12_begins, 2, none)) h ?_)
  intro I1 L1 h
  refine jr_aload_n dX12_waitsAs_16 rfl rfl ?_
  refine jr_iconst dX12_waitsAs_17 kic_2 ?_
  refine jr_iload_n dX12_waitsAs_18 rfl rfl ?_
  refine jr_callV (mc2 := 0) (mc := 0) (ms2 := 0) (ms := 0) vm_X12_388 (av := [.int (2 : Int32), .int x2]) (st := []) rfl rfl ks_71 (by decide) rfl (Nat.le_of_ble_eq_true rfl) dX12_waitsAs_19 (cI_use (M := (yX12_waitsAs, cX12_waitsAs, 4, some .int)) h ?_)
  intro r2 I2 L2 h
  refine jr_iconst dX12_waitsAs_22 kic_3 ?_
  refine jr_imul dX12_waitsAs_23 ?_
  exact jr_ireturn dX12_waitsAs_24 ⟨Or.inr (Or.inl ⟨rfl, _, rfl⟩), _, _, rfl, h⟩
def wX12_waitsAs_36 (G : jG) (l : Launch) (d : Nat) (Q : Option Value → jS → jL → Prop) (x2 : Int32) (I : jS) (L : jL) : Prop := cV G l mX12_begins d [.ref 71, .int (50 : Int32)] I L (fun I1 L1 => (cI G l mX12_waitsAs d [.ref 71, .int (1 : Int32), .int x2] I1 L1 (fun r2 I2 L2 => (cI G l mX12_goesAs d [.ref 71, .int (I2 71 47), .int (2 : Int32)] I2 L2 (fun r3 I3 L3 => (Q (some (.int (r2 - r3))) I3 L3))))))
set_option maxRecDepth 100000 in
set_option maxHeartbeats 4000000 in
theorem wX12_waitsAs_36_ok {G : jG} {l : Launch} {d : Nat} {Q : Option Value → jS → jL → Prop} : ∀ (x2 : Int32) (I : jS) (L : jL), wX12_waitsAs_36 G l d Q x2 I L → J G l yX12_waitsAs cX12_waitsAs 4 (d + 1) 0 0 36 [some (.ref 71), none, some (.int x2), none] [] (jKS, I, L, jR0) (jQm (some .int) Q) := by
  intro x2 I L h
  rw [wX12_waitsAs_36] at h
  refine jr_aload_n dX12_waitsAs_36 rfl rfl ?_
  refine jr_bipush dX12_waitsAs_37 kbp_50 ?_
  refine jr_callV (mc2 := 0) (mc := 0) (ms2 := 0) (ms := 0) vm_X12_373 (av := [.int (50 : Int32)]) (st := []) rfl rfl ks_71 (by decide) rfl (Nat.le_of_ble_eq_true rfl) dX12_waitsAs_39 (cV_use (M := (yX12_begins, cX12_begins, 2, none)) h ?_)
  intro I1 L1 h
  refine jr_aload_n dX12_waitsAs_42 rfl rfl ?_
  refine jr_iconst dX12_waitsAs_43 kic_1 ?_
  refine jr_iload_n dX12_waitsAs_44 rfl rfl ?_
  refine jr_callV (mc2 := 0) (mc := 0) (ms2 := 0) (ms := 0) vm_X12_388 (av := [.int (1 : Int32), .int x2]) (st := []) rfl rfl ks_71 (by decide) rfl (Nat.le_of_ble_eq_true rfl) dX12_waitsAs_45 (cI_use (M := (yX12_waitsAs, cX12_waitsAs, 4, some .int)) h ?_)
  intro r2 I2 L2 h
  refine jr_istore_n dX12_waitsAs_48 rfl (by decide) rfl ?_
  refine jr_iload_n dX12_waitsAs_49 rfl rfl ?_
  refine jr_aload_n dX12_waitsAs_50 rfl rfl ?_
  refine jr_aload_n dX12_waitsAs_51 rfl rfl ?_
  refine jv_geti rfl ff_X12_385 ks_71 dX12_waitsAs_52 ?_
  refine jr_iconst dX12_waitsAs_55 kic_2 ?_
  refine jr_callV (mc2 := 0) (mc := 0) (ms2 := 0) (ms := 0) vm_X12_376 (av := [.int (I2 71 47), .int (2 : Int32)]) (st := [.int r2]) rfl rfl ks_71 (by decide) rfl (Nat.le_of_ble_eq_true rfl) dX12_waitsAs_56 (cI_use (M := (yX12_goesAs, cX12_goesAs, 3, some .int)) h ?_)
  intro r3 I3 L3 h
  refine jr_isub dX12_waitsAs_59 ?_
  exact jr_ireturn dX12_waitsAs_60 ⟨Or.inr (Or.inl ⟨rfl, _, rfl⟩), _, _, rfl, h⟩
def wX12_waitsAs (G : jG) (l : Launch) (d : Nat) (x1 : Int32) (x2 : Int32) (I : jS) (L : jL) (Q : Option Value → jS → jL → Prop) : Prop := if x1 = (3 : Int32) then (wX12_waitsAs_10 G l d Q x2 I L) else (if x1 = (5 : Int32) then (wX12_waitsAs_10 G l d Q x2 I L) else (if x1 = (4 : Int32) then (wX12_waitsAs_36 G l d Q x2 I L) else (if x1 = (7 : Int32) then (wX12_waitsAs_36 G l d Q x2 I L) else (cV G l mX12_begins d [.ref 71, .int (11 : Int32)] I L (fun I1 L1 => (Q (some (.int (x2 ^^^ (I1 71 48)))) I1 L1))))))
set_option maxRecDepth 100000 in
set_option maxHeartbeats 4000000 in
theorem wX12_waitsAs_ok {G : jG} {l : Launch} {d : Nat} {Q : Option Value → jS → jL → Prop} {x1 : Int32} {x2 : Int32} {I : jS} {L : jL} (h : wX12_waitsAs G l d x1 x2 I L Q) : cM G l mX12_waitsAs (d + 1) [.ref 71, .int x1, .int x2] I L Q := by
  rw [wX12_waitsAs] at h
  show jCall G l yX12_waitsAs cX12_waitsAs 4 (some .int) (d + 1) 0 0 _ (jKS, I, L, jR0) _
  refine jCall_of (n0 := 1) (ls := [some (.ref 71), some (.int x1), some (.int x2), none]) (by decide +kernel) rfl (Nat.le_of_ble_eq_true rfl) (jQm_of ?_)
  refine jr_iload_n dX12_waitsAs_0 rfl rfl ?_
  refine jr_iconst dX12_waitsAs_1 kic_3 ?_
  refine jr_icmp_eq dX12_waitsAs_2 (tgt := 10) (by decide) (fun c => ?_) (fun c => ?_)
  · rw [if_pos c] at h
    exact J.sub (wX12_waitsAs_10_ok  _ _ _ h) (jsub_some (jsub_none (jsub_some (jsub_none jsub_nil))))
  · rw [if_neg c] at h
    refine jr_iload_n dX12_waitsAs_5 rfl rfl ?_
    refine jr_iconst dX12_waitsAs_6 kic_5 ?_
    refine jr_icmp_ne dX12_waitsAs_7 (tgt := 25) (by decide) (fun c => ?_) (fun c => ?_)
    · rw [if_neg c] at h
      refine jr_iload_n dX12_waitsAs_25 rfl rfl ?_
      refine jr_iconst dX12_waitsAs_26 kic_4 ?_
      refine jr_icmp_eq dX12_waitsAs_27 (tgt := 36) (by decide) (fun c => ?_) (fun c => ?_)
      · rw [if_pos c] at h
        exact J.sub (wX12_waitsAs_36_ok  _ _ _ h) (jsub_some (jsub_none (jsub_some (jsub_none jsub_nil))))
      · rw [if_neg c] at h
        refine jr_iload_n dX12_waitsAs_30 rfl rfl ?_
        refine jr_bipush dX12_waitsAs_31 kbp_7 ?_
        refine jr_icmp_ne dX12_waitsAs_33 (tgt := 61) (by decide) (fun c => ?_) (fun c => ?_)
        · rw [if_neg c] at h
          refine jr_aload_n dX12_waitsAs_61 rfl rfl ?_
          refine jr_bipush dX12_waitsAs_62 kbp_11 ?_
          refine jr_callV (mc2 := 0) (mc := 0) (ms2 := 0) (ms := 0) vm_X12_373 (av := [.int (11 : Int32)]) (st := []) rfl rfl ks_71 (by decide) rfl (Nat.le_of_ble_eq_true rfl) dX12_waitsAs_64 (cV_use (M := (yX12_begins, cX12_begins, 2, none)) h ?_)
          intro I1 L1 h
          refine jr_iload_n dX12_waitsAs_67 rfl rfl ?_
          refine jr_aload_n dX12_waitsAs_68 rfl rfl ?_
          refine jv_geti rfl ff_X12_379 ks_71 dX12_waitsAs_69 ?_
          refine jr_ixor dX12_waitsAs_72 ?_
          exact jr_ireturn dX12_waitsAs_73 ⟨Or.inr (Or.inl ⟨rfl, _, rfl⟩), _, _, rfl, h⟩
        · rw [if_pos c] at h
          exact J.sub (wX12_waitsAs_36_ok  _ _ _ h) (jsub_some (jsub_none (jsub_some (jsub_none jsub_nil))))
    · rw [if_pos c] at h
      exact J.sub (wX12_waitsAs_10_ok  _ _ _ h) (jsub_some (jsub_none (jsub_some (jsub_none jsub_nil))))
def wX12_tellsAs (G : jG) (l : Launch) (d : Nat) (x1 : Int32) (x2 : Int32) (I : jS) (L : jL) (Q : Option Value → jS → jL → Prop) : Prop := if x1 = (5 : Int32) then (cV G l mX12_begins d [.ref 71, .int (60 : Int32)] I L (fun I6 L6 => (cI G l mX12_tellsAs d [.ref 71, .int (3 : Int32), .int x2] I6 L6 (fun r7 I7 L7 => (Q (some (.int (r7 ^^^ (5 : Int32)))) I7 L7))))) else (if x1 = (7 : Int32) then (cV G l mX12_begins d [.ref 71, .int (81 : Int32)] I L (fun I4 L4 => (cI G l mX12_tellsAs d [.ref 71, .int (4 : Int32), .int x2] I4 L4 (fun r5 I5 L5 => (Q (some (.int (r5 - (1 : Int32)))) I5 L5))))) else (cV G l mX12_begins d [.ref 71, .int (2 : Int32)] I L (fun I1 L1 => (cI G l mX12_bearsAs d [.ref 71, .int (I1 71 47), .int x2] I1 L1 (fun r2 I2 L2 => (cI G l mX12_waitsAs d [.ref 71, .int (I2 71 47), .int (1 : Int32)] I2 L2 (fun r3 I3 L3 => (Q (some (.int (r2 - r3))) I3 L3))))))))
set_option maxRecDepth 100000 in
set_option maxHeartbeats 4000000 in
theorem wX12_tellsAs_ok {G : jG} {l : Launch} {d : Nat} {Q : Option Value → jS → jL → Prop} {x1 : Int32} {x2 : Int32} {I : jS} {L : jL} (h : wX12_tellsAs G l d x1 x2 I L Q) : cM G l mX12_tellsAs (d + 1) [.ref 71, .int x1, .int x2] I L Q := by
  rw [wX12_tellsAs] at h
  show jCall G l yX12_tellsAs cX12_tellsAs 4 (some .int) (d + 1) 0 0 _ (jKS, I, L, jR0) _
  refine jCall_of (n0 := 1) (ls := [some (.ref 71), some (.int x1), some (.int x2), none]) (by decide +kernel) rfl (Nat.le_of_ble_eq_true rfl) (jQm_of ?_)
  refine jr_iload_n dX12_tellsAs_0 rfl rfl ?_
  refine jr_iconst dX12_tellsAs_1 kic_5 ?_
  refine jr_icmp_ne dX12_tellsAs_2 (tgt := 20) (by decide) (fun c => ?_) (fun c => ?_)
  · rw [if_neg c] at h
    refine jr_iload_n dX12_tellsAs_20 rfl rfl ?_
    refine jr_bipush dX12_tellsAs_21 kbp_7 ?_
    refine jr_icmp_ne dX12_tellsAs_23 (tgt := 41) (by decide) (fun c => ?_) (fun c => ?_)
    · rw [if_neg c] at h
      refine jr_aload_n dX12_tellsAs_41 rfl rfl ?_
      refine jr_iconst dX12_tellsAs_42 kic_2 ?_
      refine jr_callV (mc2 := 0) (mc := 0) (ms2 := 0) (ms := 0) vm_X12_373 (av := [.int (2 : Int32)]) (st := []) rfl rfl ks_71 (by decide) rfl (Nat.le_of_ble_eq_true rfl) dX12_tellsAs_43 (cV_use (M := (yX12_begins, cX12_begins, 2, none)) h ?_)
      intro I1 L1 h
      refine jr_aload_n dX12_tellsAs_46 rfl rfl ?_
      refine jr_aload_n dX12_tellsAs_47 rfl rfl ?_
      refine jv_geti rfl ff_X12_385 ks_71 dX12_tellsAs_48 ?_
      refine jr_iload_n dX12_tellsAs_51 rfl rfl ?_
      refine jr_callV (mc2 := 0) (mc := 0) (ms2 := 0) (ms := 0) vm_X12_382 (av := [.int (I1 71 47), .int x2]) (st := []) rfl rfl ks_71 (by decide) rfl (Nat.le_of_ble_eq_true rfl) dX12_tellsAs_52 (cI_use (M := (yX12_bearsAs, cX12_bearsAs, 4, some .int)) h ?_)
      intro r2 I2 L2 h
      refine jr_istore_n dX12_tellsAs_55 rfl (by decide) rfl ?_
      refine jr_iload_n dX12_tellsAs_56 rfl rfl ?_
      refine jr_aload_n dX12_tellsAs_57 rfl rfl ?_
      refine jr_aload_n dX12_tellsAs_58 rfl rfl ?_
      refine jv_geti rfl ff_X12_385 ks_71 dX12_tellsAs_59 ?_
      refine jr_iconst dX12_tellsAs_62 kic_1 ?_
      refine jr_callV (mc2 := 0) (mc := 0) (ms2 := 0) (ms := 0) vm_X12_388 (av := [.int (I2 71 47), .int (1 : Int32)]) (st := [.int r2]) rfl rfl ks_71 (by decide) rfl (Nat.le_of_ble_eq_true rfl) dX12_tellsAs_63 (cI_use (M := (yX12_waitsAs, cX12_waitsAs, 4, some .int)) h ?_)
      intro r3 I3 L3 h
      refine jr_isub dX12_tellsAs_66 ?_
      exact jr_ireturn dX12_tellsAs_67 ⟨Or.inr (Or.inl ⟨rfl, _, rfl⟩), _, _, rfl, h⟩
    · rw [if_pos c] at h
      refine jr_aload_n dX12_tellsAs_26 rfl rfl ?_
      refine jr_bipush dX12_tellsAs_27 kbp_81 ?_
      refine jr_callV (mc2 := 0) (mc := 0) (ms2 := 0) (ms := 0) vm_X12_373 (av := [.int (81 : Int32)]) (st := []) rfl rfl ks_71 (by decide) rfl (Nat.le_of_ble_eq_true rfl) dX12_tellsAs_29 (cV_use (M := (yX12_begins, cX12_begins, 2, none)) h ?_)
      intro I4 L4 h
      refine jr_aload_n dX12_tellsAs_32 rfl rfl ?_
      refine jr_iconst dX12_tellsAs_33 kic_4 ?_
      refine jr_iload_n dX12_tellsAs_34 rfl rfl ?_
      refine jr_callV (mc2 := 0) (mc := 0) (ms2 := 0) (ms := 0) vm_X12_391 (av := [.int (4 : Int32), .int x2]) (st := []) rfl rfl ks_71 (by decide) rfl (Nat.le_of_ble_eq_true rfl) dX12_tellsAs_35 (cI_use (M := (yX12_tellsAs, cX12_tellsAs, 4, some .int)) h ?_)
      intro r5 I5 L5 h
      refine jr_iconst dX12_tellsAs_38 kic_1 ?_
      refine jr_isub dX12_tellsAs_39 ?_
      exact jr_ireturn dX12_tellsAs_40 ⟨Or.inr (Or.inl ⟨rfl, _, rfl⟩), _, _, rfl, h⟩
  · rw [if_pos c] at h
    refine jr_aload_n dX12_tellsAs_5 rfl rfl ?_
    refine jr_bipush dX12_tellsAs_6 kbp_60 ?_
    refine jr_callV (mc2 := 0) (mc := 0) (ms2 := 0) (ms := 0) vm_X12_373 (av := [.int (60 : Int32)]) (st := []) rfl rfl ks_71 (by decide) rfl (Nat.le_of_ble_eq_true rfl) dX12_tellsAs_8 (cV_use (M := (yX12_begins, cX12_begins, 2, none)) h ?_)
    intro I6 L6 h
    refine jr_aload_n dX12_tellsAs_11 rfl rfl ?_
    refine jr_iconst dX12_tellsAs_12 kic_3 ?_
    refine jr_iload_n dX12_tellsAs_13 rfl rfl ?_
    refine jr_callV (mc2 := 0) (mc := 0) (ms2 := 0) (ms := 0) vm_X12_391 (av := [.int (3 : Int32), .int x2]) (st := []) rfl rfl ks_71 (by decide) rfl (Nat.le_of_ble_eq_true rfl) dX12_tellsAs_14 (cI_use (M := (yX12_tellsAs, cX12_tellsAs, 4, some .int)) h ?_)
    intro r7 I7 L7 h
    refine jr_iconst dX12_tellsAs_17 kic_5 ?_
    refine jr_ixor dX12_tellsAs_18 ?_
    exact jr_ireturn dX12_tellsAs_19 ⟨Or.inr (Or.inl ⟨rfl, _, rfl⟩), _, _, rfl, h⟩
def wX12_act (G : jG) (l : Launch) (d : Nat) (x1 : Int32) (x2 : Int32) (x3 : Int32) (I : jS) (L : jL) (Q : Option Value → jS → jL → Prop) : Prop := cI G l mX12_isBody d [.ref 71, .int x1] (u2 I 71 46 (0 : Int32)) L (fun r1 I1 L1 => (if r1 = 0 then (Q (some (.int (0 : Int32))) I1 L1) else (vp_in x1 50 ∧ (if x2 = (0 : Int32) then (cI G l mX12_goesAs d [.ref 71, .int (I1 87 x1.toNatClampNeg), .int x3] (u2 (u2 I1 71 47 (I1 87 x1.toNatClampNeg)) 71 48 x1) L1 (fun r3 I3 L3 => (Q (some (.int r3)) I3 L3))) else (if x2 = (1 : Int32) then (cI G l mX12_bearsAs d [.ref 71, .int (I1 87 x1.toNatClampNeg), .int x3] (u2 (u2 I1 71 47 (I1 87 x1.toNatClampNeg)) 71 48 x1) L1 (fun r4 I4 L4 => (Q (some (.int r4)) I4 L4))) else (if x2 = (2 : Int32) then (cI G l mX12_waitsAs d [.ref 71, .int (I1 87 x1.toNatClampNeg), .int x3] (u2 (u2 I1 71 47 (I1 87 x1.toNatClampNeg)) 71 48 x1) L1 (fun r5 I5 L5 => (Q (some (.int r5)) I5 L5))) else (if x2 = (3 : Int32) then (cI G l mX12_tellsAs d [.ref 71, .int (I1 87 x1.toNatClampNeg), .int x3] (u2 (u2 I1 71 47 (I1 87 x1.toNatClampNeg)) 71 48 x1) L1 (fun r6 I6 L6 => (Q (some (.int r6)) I6 L6))) else (Q (some (.int (0 : Int32))) (u2 (u2 I1 71 47 (I1 87 x1.toNatClampNeg)) 71 48 x1) L1))))))))
set_option maxRecDepth 100000 in
set_option maxHeartbeats 4000000 in
theorem wX12_act_ok {G : jG} {l : Launch} {d : Nat} {Q : Option Value → jS → jL → Prop} {x1 : Int32} {x2 : Int32} {x3 : Int32} {I : jS} {L : jL} (h : wX12_act G l d x1 x2 x3 I L Q) : cM G l mX12_act (d + 1) [.ref 71, .int x1, .int x2, .int x3] I L Q := by
  rw [wX12_act] at h
  show jCall G l yX12_act cX12_act 4 (some .int) (d + 1) 0 0 _ (jKS, I, L, jR0) _
  refine jCall_of (n0 := 0) (ls := [some (.ref 71), some (.int x1), some (.int x2), some (.int x3)]) (by decide +kernel) rfl (Nat.le_of_ble_eq_true rfl) (jQm_of ?_)
  refine jr_aload_n dX12_act_0 rfl rfl ?_
  refine jr_iconst dX12_act_1 kic_0 ?_
  refine jr_puti ff_X12_370 ks_71 dX12_act_2 ?_
  refine jr_aload_n dX12_act_5 rfl rfl ?_
  refine jr_iload_n dX12_act_6 rfl rfl ?_
  refine jr_callV (mc2 := 0) (mc := 0) (ms2 := 0) (ms := 0) vm_X12_394 (av := [.int x1]) (st := []) rfl rfl ks_71 (by decide) rfl (Nat.le_of_ble_eq_true rfl) dX12_act_7 (cI_use (M := (yX12_isBody, cX12_isBody, 2, some .boolean)) h ?_)
  intro r1 I1 L1 h
  refine jr_if_ne dX12_act_10 (tgt := 15) (by decide) (fun c => ?_) (fun c => ?_)
  · rw [if_neg c] at h
    refine jr_aload_n dX12_act_15 rfl rfl ?_
    refine jr_aload_n dX12_act_16 rfl rfl ?_
    refine jr_geta ff_X12_62 ks_71 rr_71_44 dX12_act_17 ?_
    refine jr_iload_n dX12_act_20 rfl rfl ?_
    obtain ⟨g2, h⟩ := h
    refine jv_iaload rfl rfl ks_87 dX12_act_21 g2 ?_
    refine jr_puti ff_X12_385 ks_71 dX12_act_22 ?_
    refine jr_aload_n dX12_act_25 rfl rfl ?_
    refine jr_iload_n dX12_act_26 rfl rfl ?_
    refine jr_puti ff_X12_379 ks_71 dX12_act_27 ?_
    refine jr_iload_n dX12_act_30 rfl rfl ?_
    by_cases c : x2 = (0 : Int32)
    · rw [if_pos c] at h
      refine jr_tableIn dX12_act_31 (jtl c (by decide)) (jtg c (by decide)) (off := 29) (jtb c (by decide)) (tgt := 60) (by decide) ?_
      refine jr_aload_n dX12_act_60 rfl rfl ?_
      refine jr_aload_n dX12_act_61 rfl rfl ?_
      refine jv_geti ((u2i (by decide)).trans u2e) ff_X12_385 ks_71 dX12_act_62 ?_
      refine jr_iload_n dX12_act_65 rfl rfl ?_
      refine jr_callV (mc2 := 0) (mc := 0) (ms2 := 0) (ms := 0) vm_X12_376 (av := [.int (I1 87 x1.toNatClampNeg), .int x3]) (st := []) rfl rfl ks_71 (by decide) rfl (Nat.le_of_ble_eq_true rfl) dX12_act_66 (cI_use (M := (yX12_goesAs, cX12_goesAs, 3, some .int)) h ?_)
      intro r3 I3 L3 h
      exact jr_ireturn dX12_act_69 ⟨Or.inr (Or.inl ⟨rfl, _, rfl⟩), _, _, rfl, h⟩
    · rw [if_neg c] at h
      have c0 := c
      by_cases c : x2 = (1 : Int32)
      · rw [if_pos c] at h
        refine jr_tableIn dX12_act_31 (jtl c (by decide)) (jtg c (by decide)) (off := 39) (jtb c (by decide)) (tgt := 70) (by decide) ?_
        refine jr_aload_n dX12_act_70 rfl rfl ?_
        refine jr_aload_n dX12_act_71 rfl rfl ?_
        refine jv_geti ((u2i (by decide)).trans u2e) ff_X12_385 ks_71 dX12_act_72 ?_
        refine jr_iload_n dX12_act_75 rfl rfl ?_
        refine jr_callV (mc2 := 0) (mc := 0) (ms2 := 0) (ms := 0) vm_X12_382 (av := [.int (I1 87 x1.toNatClampNeg), .int x3]) (st := []) rfl rfl ks_71 (by decide) rfl (Nat.le_of_ble_eq_true rfl) dX12_act_76 (cI_use (M := (yX12_bearsAs, cX12_bearsAs, 4, some .int)) h ?_)
        intro r4 I4 L4 h
        exact jr_ireturn dX12_act_79 ⟨Or.inr (Or.inl ⟨rfl, _, rfl⟩), _, _, rfl, h⟩
      · rw [if_neg c] at h
        have c1 := c
        by_cases c : x2 = (2 : Int32)
        · rw [if_pos c] at h
          refine jr_tableIn dX12_act_31 (jtl c (by decide)) (jtg c (by decide)) (off := 49) (jtb c (by decide)) (tgt := 80) (by decide) ?_
          refine jr_aload_n dX12_act_80 rfl rfl ?_
          refine jr_aload_n dX12_act_81 rfl rfl ?_
          refine jv_geti ((u2i (by decide)).trans u2e) ff_X12_385 ks_71 dX12_act_82 ?_
          refine jr_iload_n dX12_act_85 rfl rfl ?_
          refine jr_callV (mc2 := 0) (mc := 0) (ms2 := 0) (ms := 0) vm_X12_388 (av := [.int (I1 87 x1.toNatClampNeg), .int x3]) (st := []) rfl rfl ks_71 (by decide) rfl (Nat.le_of_ble_eq_true rfl) dX12_act_86 (cI_use (M := (yX12_waitsAs, cX12_waitsAs, 4, some .int)) h ?_)
          intro r5 I5 L5 h
          exact jr_ireturn dX12_act_89 ⟨Or.inr (Or.inl ⟨rfl, _, rfl⟩), _, _, rfl, h⟩
        · rw [if_neg c] at h
          have c2 := c
          by_cases c : x2 = (3 : Int32)
          · rw [if_pos c] at h
            refine jr_tableIn dX12_act_31 (jtl c (by decide)) (jtg c (by decide)) (off := 59) (jtb c (by decide)) (tgt := 90) (by decide) ?_
            refine jr_aload_n dX12_act_90 rfl rfl ?_
            refine jr_aload_n dX12_act_91 rfl rfl ?_
            refine jv_geti ((u2i (by decide)).trans u2e) ff_X12_385 ks_71 dX12_act_92 ?_
            refine jr_iload_n dX12_act_95 rfl rfl ?_
            refine jr_callV (mc2 := 0) (mc := 0) (ms2 := 0) (ms := 0) vm_X12_391 (av := [.int (I1 87 x1.toNatClampNeg), .int x3]) (st := []) rfl rfl ks_71 (by decide) rfl (Nat.le_of_ble_eq_true rfl) dX12_act_96 (cI_use (M := (yX12_tellsAs, cX12_tellsAs, 4, some .int)) h ?_)
            intro r6 I6 L6 h
            exact jr_ireturn dX12_act_99 ⟨Or.inr (Or.inl ⟨rfl, _, rfl⟩), _, _, rfl, h⟩
          · rw [if_neg c] at h
            have c3 := c
            refine jr_tableOut dX12_act_31 (by
              rcases Int.lt_or_le (x2).toInt (0) with q | q
              · exact Or.inl q
              · rcases Int.lt_or_le (3) (x2).toInt with q2 | q2
                · exact Or.inr q2
                · exfalso
                  have ec0 := lv_neT c0 (a := 0) rfl
                  have ec1 := lv_neT c1 (a := 1) rfl
                  have ec2 := lv_neT c2 (a := 2) rfl
                  have ec3 := lv_neT c3 (a := 3) rfl
                  omega) (tgt := 100) (by decide) ?_
            refine jr_iconst dX12_act_100 kic_0 ?_
            exact jr_ireturn dX12_act_101 ⟨Or.inr (Or.inl ⟨rfl, _, rfl⟩), _, _, rfl, h⟩
  · rw [if_pos c] at h
    refine jr_iconst dX12_act_13 kic_0 ?_
    exact jr_ireturn dX12_act_14 ⟨Or.inr (Or.inl ⟨rfl, _, rfl⟩), _, _, rfl, h⟩
def wX12_trace (G : jG) (l : Launch) (d : Nat) (x1 : Int32) (I : jS) (L : jL) (Q : Option Value → jS → jL → Prop) : Prop := if x1 < 0 then (Q (some (.int (-1 : Int32))) I L) else (if (I 71 46) ≤ x1 then (Q (some (.int (-1 : Int32))) I L) else (if (24 : Int32) ≤ x1 then (Q (some (.int (-1 : Int32))) I L) else (vp_in x1 24 ∧ (Q (some (.int (I 88 x1.toNatClampNeg))) I L))))
set_option maxRecDepth 100000 in
set_option maxHeartbeats 4000000 in
theorem wX12_trace_ok {G : jG} {l : Launch} {d : Nat} {Q : Option Value → jS → jL → Prop} {x1 : Int32} {I : jS} {L : jL} (h : wX12_trace G l d x1 I L Q) : cM G l mX12_trace (d + 1) [.ref 71, .int x1] I L Q := by
  rw [wX12_trace] at h
  show jCall G l yX12_trace cX12_trace 2 (some .int) (d + 1) 0 0 _ (jKS, I, L, jR0) _
  refine jCall_of (n0 := 0) (ls := [some (.ref 71), some (.int x1)]) (by decide +kernel) rfl (Nat.le_of_ble_eq_true rfl) (jQm_of ?_)
  refine jr_iload_n dX12_trace_0 rfl rfl ?_
  refine jr_if_lt dX12_trace_1 (tgt := 27) (by decide) (fun c => ?_) (fun c => ?_)
  · rw [if_pos c] at h
    refine jr_iconst dX12_trace_27 kic_m1 ?_
    exact jr_ireturn dX12_trace_28 ⟨Or.inr (Or.inl ⟨rfl, _, rfl⟩), _, _, rfl, h⟩
  · rw [if_neg c] at h
    refine jr_iload_n dX12_trace_4 rfl rfl ?_
    refine jr_aload_n dX12_trace_5 rfl rfl ?_
    refine jv_geti rfl ff_X12_370 ks_71 dX12_trace_6 ?_
    refine jr_icmp_ge dX12_trace_9 (tgt := 27) (by decide) (fun c => ?_) (fun c => ?_)
    · rw [if_pos c] at h
      refine jr_iconst dX12_trace_27 kic_m1 ?_
      exact jr_ireturn dX12_trace_28 ⟨Or.inr (Or.inl ⟨rfl, _, rfl⟩), _, _, rfl, h⟩
    · rw [if_neg c] at h
      refine jr_iload_n dX12_trace_12 rfl rfl ?_
      refine jr_bipush dX12_trace_13 kbp_24 ?_
      refine jr_icmp_ge dX12_trace_15 (tgt := 27) (by decide) (fun c => ?_) (fun c => ?_)
      · rw [if_pos c] at h
        refine jr_iconst dX12_trace_27 kic_m1 ?_
        exact jr_ireturn dX12_trace_28 ⟨Or.inr (Or.inl ⟨rfl, _, rfl⟩), _, _, rfl, h⟩
      · rw [if_neg c] at h
        refine jr_aload_n dX12_trace_18 rfl rfl ?_
        refine jr_geta ff_X12_65 ks_71 rr_71_45 dX12_trace_19 ?_
        refine jr_iload_n dX12_trace_22 rfl rfl ?_
        obtain ⟨g1, h⟩ := h
        refine jv_iaload rfl rfl ks_88 dX12_trace_23 g1 ?_
        refine jr_goto dX12_trace_24 (tgt := 28) (by decide) ?_
        exact jr_ireturn dX12_trace_28 ⟨Or.inr (Or.inl ⟨rfl, _, rfl⟩), _, _, rfl, h⟩
def wX12_isShelf (G : jG) (l : Launch) (d : Nat) (x0 : Int32) (I : jS) (L : jL) (Q : Option Value → jS → jL → Prop) : Prop := cI G l mX12_within d [.long (x0.toInt64), .long (0 : Int64), .long (5 : Int64)] I L (fun r1 I1 L1 => ((r1 = 0 ∨ r1 = 1) ∧ Q (some (.int r1)) I1 L1))
set_option maxRecDepth 100000 in
set_option maxHeartbeats 4000000 in
theorem wX12_isShelf_ok {G : jG} {l : Launch} {d : Nat} {Q : Option Value → jS → jL → Prop} {x0 : Int32} {I : jS} {L : jL} (h : wX12_isShelf G l d x0 I L Q) : cM G l mX12_isShelf (d + 1) [.int x0] I L Q := by
  rw [wX12_isShelf] at h
  show jCall G l yX12_isShelf cX12_isShelf 1 (some .boolean) (d + 1) 0 0 _ (jKS, I, L, jR0) _
  refine jCall_of (n0 := 0) (ls := [some (.int x0)]) (by decide +kernel) rfl (Nat.le_of_ble_eq_true rfl) (jQm_of ?_)
  refine jr_iload_n dX12_isShelf_0 rfl rfl ?_
  refine jr_i2l dX12_isShelf_1 ?_
  refine jr_lconst dX12_isShelf_2 klc_0 ?_
  refine jr_ldc2 kl_X12_397 dX12_isShelf_3 ?_
  refine jr_callS (mc2 := 0) (mc := 0) (ms2 := 0) (ms := 0) vm_X12_96 (av := [.long (x0.toInt64), .long (0 : Int64), .long (5 : Int64)]) (st := []) rfl rfl (Nat.le_of_ble_eq_true rfl) dX12_isShelf_6 (cI_use (M := (yX12_within, cX12_within, 6, some .boolean)) h ?_)
  intro r1 I1 L1 h
  obtain ⟨gz, h⟩ := h
  exact jr_ireturn dX12_isShelf_9 ⟨Or.inr (Or.inr (Or.inr ⟨rfl, gz.imp (fun e => by rw [e]) (fun e => by rw [e])⟩)), _, _, rfl, h⟩
def wX12_keep_22 (G : jG) (l : Launch) (d : Nat) (Q : Option Value → jS → jL → Prop) (x1 : Int32) (x2 : Int32) (I : jS) (L : jL) : Prop := vp_in x1 6 ∧ (Q (some (.int (1 : Int32))) (u2 (u2 I 89 x1.toNatClampNeg x2) 90 x1.toNatClampNeg (0 : Int32)) L)
set_option maxRecDepth 100000 in
set_option maxHeartbeats 4000000 in
theorem wX12_keep_22_ok {G : jG} {l : Launch} {d : Nat} {Q : Option Value → jS → jL → Prop} : ∀ (x1 : Int32) (x2 : Int32) (I : jS) (L : jL), wX12_keep_22 G l d Q x1 x2 I L → J G l yX12_keep cX12_keep 3 (d + 1) 0 0 22 [some (.ref 71), some (.int x1), some (.int x2)] [] (jKS, I, L, jR0) (jQm (some .int) Q) := by
  intro x1 x2 I L h
  rw [wX12_keep_22] at h
  refine jr_aload_n dX12_keep_22 rfl rfl ?_
  refine jr_geta ff_X12_68 ks_71 rr_71_49 dX12_keep_23 ?_
  refine jr_iload_n dX12_keep_26 rfl rfl ?_
  refine jr_iload_n dX12_keep_27 rfl rfl ?_
  obtain ⟨g1, h⟩ := h
  refine jr_iastore rfl ks_89 dX12_keep_28 g1 ?_
  refine jr_aload_n dX12_keep_29 rfl rfl ?_
  refine jr_geta ff_X12_71 ks_71 rr_71_50 dX12_keep_30 ?_
  refine jr_iload_n dX12_keep_33 rfl rfl ?_
  refine jr_iconst dX12_keep_34 kic_0 ?_
  refine jr_iastore rfl ks_90 dX12_keep_35 g1 ?_
  refine jr_iconst dX12_keep_36 kic_1 ?_
  exact jr_ireturn dX12_keep_37 ⟨Or.inr (Or.inl ⟨rfl, _, rfl⟩), _, _, rfl, h⟩
def wX12_keep (G : jG) (l : Launch) (d : Nat) (x1 : Int32) (x2 : Int32) (I : jS) (L : jL) (Q : Option Value → jS → jL → Prop) : Prop := cI G l mX12_isShelf d [.int x1] I L (fun r1 I1 L1 => (if r1 = 0 then (Q (some (.int (-1 : Int32))) I1 L1) else (if x2 = (-1 : Int32) then (wX12_keep_22 G l d Q x1 x2 I1 L1) else (cI G l mX12_isBody d [.ref 71, .int x2] I1 L1 (fun r2 I2 L2 => (if r2 = 0 then (Q (some (.int (-1 : Int32))) I2 L2) else (wX12_keep_22 G l d Q x1 x2 I2 L2)))))))
set_option maxRecDepth 100000 in
set_option maxHeartbeats 4000000 in
theorem wX12_keep_ok {G : jG} {l : Launch} {d : Nat} {Q : Option Value → jS → jL → Prop} {x1 : Int32} {x2 : Int32} {I : jS} {L : jL} (h : wX12_keep G l d x1 x2 I L Q) : cM G l mX12_keep (d + 1) [.ref 71, .int x1, .int x2] I L Q := by
  rw [wX12_keep] at h
  show jCall G l yX12_keep cX12_keep 3 (some .int) (d + 1) 0 0 _ (jKS, I, L, jR0) _
  refine jCall_of (n0 := 0) (ls := [some (.ref 71), some (.int x1), some (.int x2)]) (by decide +kernel) rfl (Nat.le_of_ble_eq_true rfl) (jQm_of ?_)
  refine jr_iload_n dX12_keep_0 rfl rfl ?_
  refine jr_callS (mc2 := 0) (mc := 0) (ms2 := 0) (ms := 0) vm_X12_110 (av := [.int x1]) (st := []) rfl rfl (Nat.le_of_ble_eq_true rfl) dX12_keep_1 (cI_use (M := (yX12_isShelf, cX12_isShelf, 1, some .boolean)) h ?_)
  intro r1 I1 L1 h
  refine jr_if_eq dX12_keep_4 (tgt := 20) (by decide) (fun c => ?_) (fun c => ?_)
  · rw [if_pos c] at h
    refine jr_iconst dX12_keep_20 kic_m1 ?_
    exact jr_ireturn dX12_keep_21 ⟨Or.inr (Or.inl ⟨rfl, _, rfl⟩), _, _, rfl, h⟩
  · rw [if_neg c] at h
    refine jr_iload_n dX12_keep_7 rfl rfl ?_
    refine jr_iconst dX12_keep_8 kic_m1 ?_
    refine jr_icmp_eq dX12_keep_9 (tgt := 22) (by decide) (fun c => ?_) (fun c => ?_)
    · rw [if_pos c] at h
      exact J.sub (wX12_keep_22_ok  _ _ _ _ h) (jsub_some (jsub_some (jsub_some jsub_nil)))
    · rw [if_neg c] at h
      refine jr_aload_n dX12_keep_12 rfl rfl ?_
      refine jr_iload_n dX12_keep_13 rfl rfl ?_
      refine jr_callV (mc2 := 0) (mc := 0) (ms2 := 0) (ms := 0) vm_X12_394 (av := [.int x2]) (st := []) rfl rfl ks_71 (by decide) rfl (Nat.le_of_ble_eq_true rfl) dX12_keep_14 (cI_use (M := (yX12_isBody, cX12_isBody, 2, some .boolean)) h ?_)
      intro r2 I2 L2 h
      refine jr_if_ne dX12_keep_17 (tgt := 22) (by decide) (fun c => ?_) (fun c => ?_)
      · rw [if_neg c] at h
        exact J.sub (wX12_keep_22_ok  _ _ _ _ h) (jsub_some (jsub_some (jsub_some jsub_nil)))
      · rw [if_pos c] at h
        refine jr_iconst dX12_keep_20 kic_m1 ?_
        exact jr_ireturn dX12_keep_21 ⟨Or.inr (Or.inl ⟨rfl, _, rfl⟩), _, _, rfl, h⟩
def wX12_row_57 (G : jG) (l : Launch) (d : Nat) (Q : Option Value → jS → jL → Prop) : Nat → Int32 → Int32 → jS → jL → Prop
  | 0, _, _, _, _ => False
  | n57 + 1, x1, x4, I, L => if (((60 : Int32) * x1) + (60 : Int32)) ≤ x4 then (Q (some (.int (1 : Int32))) I L) else (vp_in x4 360 ∧ ((wX12_row_57 G l d Q n57) x1 (x4 + (1 : Int32)) I (u2L L 91 x4.toNatClampNeg (0 : Int64))))
set_option maxRecDepth 100000 in
set_option maxHeartbeats 4000000 in
theorem wX12_row_57_ok {G : jG} {l : Launch} {d : Nat} {Q : Option Value → jS → jL → Prop} : ∀ (n : Nat) (x1 : Int32) (x4 : Int32) (I : jS) (L : jL), wX12_row_57 G l d Q n x1 x4 I L → J G l yX12_row cX12_row 5 (d + 1) 0 0 57 [some (.ref 71), some (.int x1), none, none, some (.int x4)] [] (jKS, I, L, jR0) (jQm (some .int) Q) := by
  intro n
  induction n with
  | zero => intro x1 x4 I L h; exact h.elim
  | succ n ih =>
    intro x1 x4 I L h
    rw [wX12_row_57] at h
    refine jr_iload dX12_row_57 rfl ?_
    refine jr_bipush dX12_row_59 kbp_60 ?_
    refine jr_iload_n dX12_row_61 rfl rfl ?_
    refine jr_imul dX12_row_62 ?_
    refine jr_bipush dX12_row_63 kbp_60 ?_
    refine jr_iadd dX12_row_65 ?_
    refine jr_icmp_ge dX12_row_66 (tgt := 83) (by decide) (fun c => ?_) (fun c => ?_)
    · rw [if_pos c] at h
      refine jr_iconst dX12_row_83 kic_1 ?_
      exact jr_ireturn dX12_row_84 ⟨Or.inr (Or.inl ⟨rfl, _, rfl⟩), _, _, rfl, h⟩
    · rw [if_neg c] at h
      refine jr_aload_n dX12_row_69 rfl rfl ?_
      refine jr_geta ff_X12_74 ks_71 rr_71_51 dX12_row_70 ?_
      refine jr_iload dX12_row_73 rfl ?_
      refine jr_lconst dX12_row_75 klc_0 ?_
      obtain ⟨g1, h⟩ := h
      refine jr_lastore rfl ks_91 dX12_row_76 g1 ?_
      refine jr_iinc dX12_row_77 rfl (by rw [kic_1]) (by decide) rfl ?_
      refine jr_goto dX12_row_80 (tgt := 57) (by decide) ?_
      exact J.sub (ih _ _ _ _ h) (jsub_some (jsub_some (jsub_none (jsub_none (jsub_some jsub_nil)))))
def wX12_row (G : jG) (l : Launch) (d : Nat) (x1 : Int32) (x2 : Int32) (x3 : Int32) (I : jS) (L : jL) (Q : Option Value → jS → jL → Prop) : Prop := cI G l mX12_isShelf d [.int x1] I L (fun r1 I1 L1 => (if r1 = 0 then (Q (some (.int (-1 : Int32))) I1 L1) else (cI G l mX12_within d [.long (x2.toInt64), .long (0 : Int64), .long (4 : Int64)] I1 L1 (fun r2 I2 L2 => (if r2 = 0 then (Q (some (.int (-1 : Int32))) I2 L2) else (if x3 ≤ (60 : Int32) then (if 0 ≤ x3 then (vp_in x1 6 ∧ (∃ e57 : Nat, wX12_row_57 G l d Q e57 x1 ((60 : Int32) * x1) (u2 (u2 I2 89 x1.toNatClampNeg ((50 : Int32) + x2)) 90 x1.toNatClampNeg x3) L2)) else (Q (some (.int (-14 : Int32))) I2 L2)) else (Q (some (.int (-1 : Int32))) I2 L2)))))))
set_option maxRecDepth 100000 in
set_option maxHeartbeats 4000000 in
theorem wX12_row_ok {G : jG} {l : Launch} {d : Nat} {Q : Option Value → jS → jL → Prop} {x1 : Int32} {x2 : Int32} {x3 : Int32} {I : jS} {L : jL} (h : wX12_row G l d x1 x2 x3 I L Q) : cM G l mX12_row (d + 1) [.ref 71, .int x1, .int x2, .int x3] I L Q := by
  rw [wX12_row] at h
  show jCall G l yX12_row cX12_row 5 (some .int) (d + 1) 0 0 _ (jKS, I, L, jR0) _
  refine jCall_of (n0 := 1) (ls := [some (.ref 71), some (.int x1), some (.int x2), some (.int x3), none]) (by decide +kernel) rfl (Nat.le_of_ble_eq_true rfl) (jQm_of ?_)
  refine jr_iload_n dX12_row_0 rfl rfl ?_
  refine jr_callS (mc2 := 0) (mc := 0) (ms2 := 0) (ms := 0) vm_X12_110 (av := [.int x1]) (st := []) rfl rfl (Nat.le_of_ble_eq_true rfl) dX12_row_1 (cI_use (M := (yX12_isShelf, cX12_isShelf, 1, some .boolean)) h ?_)
  intro r1 I1 L1 h
  refine jr_if_eq dX12_row_4 (tgt := 25) (by decide) (fun c => ?_) (fun c => ?_)
  · rw [if_pos c] at h
    refine jr_iconst dX12_row_25 kic_m1 ?_
    exact jr_ireturn dX12_row_26 ⟨Or.inr (Or.inl ⟨rfl, _, rfl⟩), _, _, rfl, h⟩
  · rw [if_neg c] at h
    refine jr_iload_n dX12_row_7 rfl rfl ?_
    refine jr_i2l dX12_row_8 ?_
    refine jr_lconst dX12_row_9 klc_0 ?_
    refine jr_ldc2 kl_X12_123 dX12_row_10 ?_
    refine jr_callS (mc2 := 0) (mc := 0) (ms2 := 0) (ms := 0) vm_X12_96 (av := [.long (x2.toInt64), .long (0 : Int64), .long (4 : Int64)]) (st := []) rfl rfl (Nat.le_of_ble_eq_true rfl) dX12_row_13 (cI_use (M := (yX12_within, cX12_within, 6, some .boolean)) h ?_)
    intro r2 I2 L2 h
    refine jr_if_eq dX12_row_16 (tgt := 25) (by decide) (fun c => ?_) (fun c => ?_)
    · rw [if_pos c] at h
      refine jr_iconst dX12_row_25 kic_m1 ?_
      exact jr_ireturn dX12_row_26 ⟨Or.inr (Or.inl ⟨rfl, _, rfl⟩), _, _, rfl, h⟩
    · rw [if_neg c] at h
      refine jr_iload_n dX12_row_19 rfl rfl ?_
      refine jr_bipush dX12_row_20 kbp_60 ?_
      refine jr_icmp_le dX12_row_22 (tgt := 27) (by decide) (fun c => ?_) (fun c => ?_)
      · rw [if_pos c] at h
        refine jr_iload_n dX12_row_27 rfl rfl ?_
        refine jr_if_ge dX12_row_28 (tgt := 34) (by decide) (fun c => ?_) (fun c => ?_)
        · rw [if_pos c] at h
          refine jr_aload_n dX12_row_34 rfl rfl ?_
          refine jr_geta ff_X12_68 ks_71 rr_71_49 dX12_row_35 ?_
          refine jr_iload_n dX12_row_38 rfl rfl ?_
          refine jr_bipush dX12_row_39 kbp_50 ?_
          refine jr_iload_n dX12_row_41 rfl rfl ?_
          refine jr_iadd dX12_row_42 ?_
          obtain ⟨g3, h⟩ := h
          refine jr_iastore rfl ks_89 dX12_row_43 g3 ?_
          refine jr_aload_n dX12_row_44 rfl rfl ?_
          refine jr_geta ff_X12_71 ks_71 rr_71_50 dX12_row_45 ?_
          refine jr_iload_n dX12_row_48 rfl rfl ?_
          refine jr_iload_n dX12_row_49 rfl rfl ?_
          refine jr_iastore rfl ks_90 dX12_row_50 g3 ?_
          refine jr_bipush dX12_row_51 kbp_60 ?_
          refine jr_iload_n dX12_row_53 rfl rfl ?_
          refine jr_imul dX12_row_54 ?_
          refine jr_istore dX12_row_55 (by decide) rfl ?_
          obtain ⟨e57, h⟩ := h
          exact J.sub (wX12_row_57_ok  e57 _ _ _ _ h) (jsub_some (jsub_some (jsub_none (jsub_none (jsub_some jsub_nil)))))
        · rw [if_neg c] at h
          refine jr_bipush dX12_row_31 kbp_m14 ?_
          exact jr_ireturn dX12_row_33 ⟨Or.inr (Or.inl ⟨rfl, _, rfl⟩), _, _, rfl, h⟩
      · rw [if_neg c] at h
        refine jr_iconst dX12_row_25 kic_m1 ?_
        exact jr_ireturn dX12_row_26 ⟨Or.inr (Or.inl ⟨rfl, _, rfl⟩), _, _, rfl, h⟩
def wX12_refusal (G : jG) (l : Launch) (d : Nat) (x1 : Int32) (x2 : Int32) (I : jS) (L : jL) (Q : Option Value → jS → jL → Prop) : Prop := cI G l mX12_isShelf d [.int x1] I L (fun r1 I1 L1 => (if r1 = 0 then (Q (some (.int (-1 : Int32))) I1 L1) else (vp_in x1 6 ∧ (if 0 ≤ (I1 89 x1.toNatClampNeg) then (if (50 : Int32) ≤ (I1 89 x1.toNatClampNeg) then (if x2 < 0 then (Q (some (.int (-13 : Int32))) I1 L1) else (if (I1 90 x1.toNatClampNeg) ≤ x2 then (Q (some (.int (-13 : Int32))) I1 L1) else (Q (some (.int (0 : Int32))) I1 L1))) else (Q (some (.int (-12 : Int32))) I1 L1)) else (Q (some (.int (-11 : Int32))) I1 L1)))))
set_option maxRecDepth 100000 in
set_option maxHeartbeats 4000000 in
theorem wX12_refusal_ok {G : jG} {l : Launch} {d : Nat} {Q : Option Value → jS → jL → Prop} {x1 : Int32} {x2 : Int32} {I : jS} {L : jL} (h : wX12_refusal G l d x1 x2 I L Q) : cM G l mX12_refusal (d + 1) [.ref 71, .int x1, .int x2] I L Q := by
  rw [wX12_refusal] at h
  show jCall G l yX12_refusal cX12_refusal 3 (some .int) (d + 1) 0 0 _ (jKS, I, L, jR0) _
  refine jCall_of (n0 := 0) (ls := [some (.ref 71), some (.int x1), some (.int x2)]) (by decide +kernel) rfl (Nat.le_of_ble_eq_true rfl) (jQm_of ?_)
  refine jr_iload_n dX12_refusal_0 rfl rfl ?_
  refine jr_callS (mc2 := 0) (mc := 0) (ms2 := 0) (ms := 0) vm_X12_110 (av := [.int x1]) (st := []) rfl rfl (Nat.le_of_ble_eq_true rfl) dX12_refusal_1 (cI_use (M := (yX12_isShelf, cX12_isShelf, 1, some .boolean)) h ?_)
  intro r1 I1 L1 h
  refine jr_if_ne dX12_refusal_4 (tgt := 9) (by decide) (fun c => ?_) (fun c => ?_)
  · rw [if_neg c] at h
    refine jr_aload_n dX12_refusal_9 rfl rfl ?_
    refine jr_geta ff_X12_68 ks_71 rr_71_49 dX12_refusal_10 ?_
    refine jr_iload_n dX12_refusal_13 rfl rfl ?_
    obtain ⟨g2, h⟩ := h
    refine jv_iaload rfl rfl ks_89 dX12_refusal_14 g2 ?_
    refine jr_if_ge dX12_refusal_15 (tgt := 21) (by decide) (fun c => ?_) (fun c => ?_)
    · rw [if_pos c] at h
      refine jr_aload_n dX12_refusal_21 rfl rfl ?_
      refine jr_geta ff_X12_68 ks_71 rr_71_49 dX12_refusal_22 ?_
      refine jr_iload_n dX12_refusal_25 rfl rfl ?_
      refine jv_iaload rfl rfl ks_89 dX12_refusal_26 g2 ?_
      refine jr_bipush dX12_refusal_27 kbp_50 ?_
      refine jr_icmp_ge dX12_refusal_29 (tgt := 35) (by decide) (fun c => ?_) (fun c => ?_)
      · rw [if_pos c] at h
        refine jr_iload_n dX12_refusal_35 rfl rfl ?_
        refine jr_if_lt dX12_refusal_36 (tgt := 53) (by decide) (fun c => ?_) (fun c => ?_)
        · rw [if_pos c] at h
          refine jr_bipush dX12_refusal_53 kbp_m13 ?_
          exact jr_ireturn dX12_refusal_55 ⟨Or.inr (Or.inl ⟨rfl, _, rfl⟩), _, _, rfl, h⟩
        · rw [if_neg c] at h
          refine jr_iload_n dX12_refusal_39 rfl rfl ?_
          refine jr_aload_n dX12_refusal_40 rfl rfl ?_
          refine jr_geta ff_X12_71 ks_71 rr_71_50 dX12_refusal_41 ?_
          refine jr_iload_n dX12_refusal_44 rfl rfl ?_
          refine jv_iaload rfl rfl ks_90 dX12_refusal_45 g2 ?_
          refine jr_icmp_ge dX12_refusal_46 (tgt := 53) (by decide) (fun c => ?_) (fun c => ?_)
          · rw [if_pos c] at h
            refine jr_bipush dX12_refusal_53 kbp_m13 ?_
            exact jr_ireturn dX12_refusal_55 ⟨Or.inr (Or.inl ⟨rfl, _, rfl⟩), _, _, rfl, h⟩
          · rw [if_neg c] at h
            refine jr_iconst dX12_refusal_49 kic_0 ?_
            refine jr_goto dX12_refusal_50 (tgt := 55) (by decide) ?_
            exact jr_ireturn dX12_refusal_55 ⟨Or.inr (Or.inl ⟨rfl, _, rfl⟩), _, _, rfl, h⟩
      · rw [if_neg c] at h
        refine jr_bipush dX12_refusal_32 kbp_m12 ?_
        exact jr_ireturn dX12_refusal_34 ⟨Or.inr (Or.inl ⟨rfl, _, rfl⟩), _, _, rfl, h⟩
    · rw [if_neg c] at h
      refine jr_bipush dX12_refusal_18 kbp_m11 ?_
      exact jr_ireturn dX12_refusal_20 ⟨Or.inr (Or.inl ⟨rfl, _, rfl⟩), _, _, rfl, h⟩
  · rw [if_pos c] at h
    refine jr_iconst dX12_refusal_7 kic_m1 ?_
    exact jr_ireturn dX12_refusal_8 ⟨Or.inr (Or.inl ⟨rfl, _, rfl⟩), _, _, rfl, h⟩
def wX12_asSort (G : jG) (l : Launch) (d : Nat) (x0 : Int32) (y1 : Int64) (I : jS) (L : jL) (Q : Option Value → jS → jL → Prop) : Prop := if x0 = 0 then (Q (some (.long (y1.toInt32.toInt8.toInt32.toInt64))) I L) else (if x0 = (1 : Int32) then (Q (some (.long (y1.toInt32.toInt16.toInt32.toInt64))) I L) else (if x0 = (2 : Int32) then (Q (some (.long (y1.toInt32.toInt64))) I L) else (if x0 = (4 : Int32) then (if (lg_cmp y1 (0 : Int64)) = 0 then (Q (some (.long (0 : Int64))) I L) else (Q (some (.long (1 : Int64))) I L)) else (Q (some (.long y1)) I L))))
set_option maxRecDepth 100000 in
set_option maxHeartbeats 4000000 in
theorem wX12_asSort_ok {G : jG} {l : Launch} {d : Nat} {Q : Option Value → jS → jL → Prop} {x0 : Int32} {y1 : Int64} {I : jS} {L : jL} (h : wX12_asSort G l d x0 y1 I L Q) : cM G l mX12_asSort (d + 1) [.int x0, .long y1] I L Q := by
  rw [wX12_asSort] at h
  show jCall G l yX12_asSort cX12_asSort 3 (some .long) (d + 1) 0 0 _ (jKS, I, L, jR0) _
  refine jCall_of (n0 := 0) (ls := [some (.int x0), some (.long y1), none]) (by decide +kernel) rfl (Nat.le_of_ble_eq_true rfl) (jQm_of ?_)
  refine jr_iload_n dX12_asSort_0 rfl rfl ?_
  refine jr_if_ne dX12_asSort_1 (tgt := 11) (by decide) (fun c => ?_) (fun c => ?_)
  · rw [if_neg c] at h
    refine jr_iload_n dX12_asSort_11 rfl rfl ?_
    refine jr_iconst dX12_asSort_12 kic_1 ?_
    refine jr_icmp_ne dX12_asSort_13 (tgt := 23) (by decide) (fun c => ?_) (fun c => ?_)
    · rw [if_neg c] at h
      refine jr_iload_n dX12_asSort_23 rfl rfl ?_
      refine jr_iconst dX12_asSort_24 kic_2 ?_
      refine jr_icmp_ne dX12_asSort_25 (tgt := 34) (by decide) (fun c => ?_) (fun c => ?_)
      · rw [if_neg c] at h
        refine jr_iload_n dX12_asSort_34 rfl rfl ?_
        refine jr_iconst dX12_asSort_35 kic_4 ?_
        refine jr_icmp_ne dX12_asSort_36 (tgt := 53) (by decide) (fun c => ?_) (fun c => ?_)
        · rw [if_neg c] at h
          refine jr_lload_n dX12_asSort_53 rfl rfl ?_
          exact jr_lreturn dX12_asSort_54 ⟨Or.inr (Or.inr (Or.inl ⟨rfl, _, rfl⟩)), _, _, rfl, h⟩
        · rw [if_pos c] at h
          refine jr_lload_n dX12_asSort_39 rfl rfl ?_
          refine jr_lconst dX12_asSort_40 klc_0 ?_
          refine jr_lcmp dX12_asSort_41 ?_
          refine jr_if_eq dX12_asSort_42 (tgt := 49) (by decide) (fun c => ?_) (fun c => ?_)
          · rw [if_pos c] at h
            refine jr_lconst dX12_asSort_49 klc_0 ?_
            refine jr_goto dX12_asSort_50 (tgt := 54) (by decide) ?_
            exact jr_lreturn dX12_asSort_54 ⟨Or.inr (Or.inr (Or.inl ⟨rfl, _, rfl⟩)), _, _, rfl, h⟩
          · rw [if_neg c] at h
            refine jr_lconst dX12_asSort_45 klc_1 ?_
            refine jr_goto dX12_asSort_46 (tgt := 54) (by decide) ?_
            exact jr_lreturn dX12_asSort_54 ⟨Or.inr (Or.inr (Or.inl ⟨rfl, _, rfl⟩)), _, _, rfl, h⟩
      · rw [if_pos c] at h
        refine jr_lload_n dX12_asSort_28 rfl rfl ?_
        refine jr_l2i dX12_asSort_29 ?_
        refine jr_i2l dX12_asSort_30 ?_
        refine jr_goto dX12_asSort_31 (tgt := 54) (by decide) ?_
        exact jr_lreturn dX12_asSort_54 ⟨Or.inr (Or.inr (Or.inl ⟨rfl, _, rfl⟩)), _, _, rfl, h⟩
    · rw [if_pos c] at h
      refine jr_lload_n dX12_asSort_16 rfl rfl ?_
      refine jr_l2i dX12_asSort_17 ?_
      refine jr_i2s dX12_asSort_18 ?_
      refine jr_i2l dX12_asSort_19 ?_
      refine jr_goto dX12_asSort_20 (tgt := 54) (by decide) ?_
      exact jr_lreturn dX12_asSort_54 ⟨Or.inr (Or.inr (Or.inl ⟨rfl, _, rfl⟩)), _, _, rfl, h⟩
  · rw [if_pos c] at h
    refine jr_lload_n dX12_asSort_4 rfl rfl ?_
    refine jr_l2i dX12_asSort_5 ?_
    refine jr_i2b dX12_asSort_6 ?_
    refine jr_i2l dX12_asSort_7 ?_
    refine jr_goto dX12_asSort_8 (tgt := 54) (by decide) ?_
    exact jr_lreturn dX12_asSort_54 ⟨Or.inr (Or.inr (Or.inl ⟨rfl, _, rfl⟩)), _, _, rfl, h⟩
def wX12_put_37 (G : jG) (l : Launch) (d : Nat) (Q : Option Value → jS → jL → Prop) (x5 : Int32) (I : jS) (L : jL) : Prop := if x5 = 0 then (Q (some (.int (1 : Int32))) I L) else (Q (some (.int x5)) I L)
set_option maxRecDepth 100000 in
set_option maxHeartbeats 4000000 in
theorem wX12_put_37_ok {G : jG} {l : Launch} {d : Nat} {Q : Option Value → jS → jL → Prop} : ∀ (x5 : Int32) (I : jS) (L : jL), wX12_put_37 G l d Q x5 I L → J G l yX12_put cX12_put 6 (d + 1) 0 0 37 [none, none, none, none, none, some (.int x5)] [] (jKS, I, L, jR0) (jQm (some .int) Q) := by
  intro x5 I L h
  rw [wX12_put_37] at h
  refine jr_iload dX12_put_37 rfl ?_
  refine jr_if_ne dX12_put_39 (tgt := 46) (by decide) (fun c => ?_) (fun c => ?_)
  · rw [if_neg c] at h
    refine jr_iload dX12_put_46 rfl ?_
    exact jr_ireturn dX12_put_48 ⟨Or.inr (Or.inl ⟨rfl, _, rfl⟩), _, _, rfl, h⟩
  · rw [if_pos c] at h
    refine jr_iconst dX12_put_42 kic_1 ?_
    refine jr_goto dX12_put_43 (tgt := 48) (by decide) ?_
    exact jr_ireturn dX12_put_48 ⟨Or.inr (Or.inl ⟨rfl, _, rfl⟩), _, _, rfl, h⟩
def wX12_put (G : jG) (l : Launch) (d : Nat) (x1 : Int32) (x2 : Int32) (y3 : Int64) (I : jS) (L : jL) (Q : Option Value → jS → jL → Prop) : Prop := cI G l mX12_refusal d [.ref 71, .int x1, .int x2] I L (fun r1 I1 L1 => (if r1 = 0 then (vp_in x1 6 ∧ (cJ G l mX12_asSort d [.int ((I1 89 x1.toNatClampNeg) - (50 : Int32)), .long y3] I1 L1 (fun r3 I3 L3 => (vp_in (((60 : Int32) * x1) + x2) 360 ∧ (wX12_put_37 G l d Q r1 I3 (u2L L3 91 ((((60 : Int32) * x1) + x2).toNatClampNeg) r3)))))) else (wX12_put_37 G l d Q r1 I1 L1)))
set_option maxRecDepth 100000 in
set_option maxHeartbeats 4000000 in
theorem wX12_put_ok {G : jG} {l : Launch} {d : Nat} {Q : Option Value → jS → jL → Prop} {x1 : Int32} {x2 : Int32} {y3 : Int64} {I : jS} {L : jL} (h : wX12_put G l d x1 x2 y3 I L Q) : cM G l mX12_put (d + 1) [.ref 71, .int x1, .int x2, .long y3] I L Q := by
  rw [wX12_put] at h
  show jCall G l yX12_put cX12_put 6 (some .int) (d + 1) 0 0 _ (jKS, I, L, jR0) _
  refine jCall_of (n0 := 1) (ls := [some (.ref 71), some (.int x1), some (.int x2), some (.long y3), none, none]) (by decide +kernel) rfl (Nat.le_of_ble_eq_true rfl) (jQm_of ?_)
  refine jr_aload_n dX12_put_0 rfl rfl ?_
  refine jr_iload_n dX12_put_1 rfl rfl ?_
  refine jr_iload_n dX12_put_2 rfl rfl ?_
  refine jr_callV (mc2 := 0) (mc := 0) (ms2 := 0) (ms := 0) vm_X12_399 (av := [.int x1, .int x2]) (st := []) rfl rfl ks_71 (by decide) rfl (Nat.le_of_ble_eq_true rfl) dX12_put_3 (cI_use (M := (yX12_refusal, cX12_refusal, 3, some .int)) h ?_)
  intro r1 I1 L1 h
  refine jr_istore dX12_put_6 (by decide) rfl ?_
  refine jr_iload dX12_put_8 rfl ?_
  refine jr_if_ne dX12_put_10 (tgt := 37) (by decide) (fun c => ?_) (fun c => ?_)
  · rw [if_neg c] at h
    exact J.sub (wX12_put_37_ok  _ _ _ h) (jsub_none (jsub_none (jsub_none (jsub_none (jsub_none (jsub_some jsub_nil))))))
  · rw [if_pos c] at h
    refine jr_aload_n dX12_put_13 rfl rfl ?_
    refine jr_geta ff_X12_74 ks_71 rr_71_51 dX12_put_14 ?_
    refine jr_bipush dX12_put_17 kbp_60 ?_
    refine jr_iload_n dX12_put_19 rfl rfl ?_
    refine jr_imul dX12_put_20 ?_
    refine jr_iload_n dX12_put_21 rfl rfl ?_
    refine jr_iadd dX12_put_22 ?_
    refine jr_aload_n dX12_put_23 rfl rfl ?_
    refine jr_geta ff_X12_68 ks_71 rr_71_49 dX12_put_24 ?_
    refine jr_iload_n dX12_put_27 rfl rfl ?_
    obtain ⟨g2, h⟩ := h
    refine jv_iaload rfl rfl ks_89 dX12_put_28 g2 ?_
    refine jr_bipush dX12_put_29 kbp_50 ?_
    refine jr_isub dX12_put_31 ?_
    refine jr_lload_n dX12_put_32 rfl rfl ?_
    refine jr_callS (mc2 := 0) (mc := 0) (ms2 := 0) (ms := 0) vm_X12_402 (av := [.int ((I1 89 x1.toNatClampNeg) - (50 : Int32)), .long y3]) (st := [.int (((60 : Int32) * x1) + x2), .ref 91]) rfl rfl (Nat.le_of_ble_eq_true rfl) dX12_put_33 (cJ_use (M := (yX12_asSort, cX12_asSort, 3, some .long)) h ?_)
    intro r3 I3 L3 h
    obtain ⟨g4, h⟩ := h
    refine jr_lastore rfl ks_91 dX12_put_36 g4 ?_
    exact J.sub (wX12_put_37_ok  _ _ _ h) (jsub_none (jsub_none (jsub_none (jsub_none (jsub_none (jsub_some jsub_nil))))))
def wX12_element (G : jG) (l : Launch) (d : Nat) (x1 : Int32) (x2 : Int32) (I : jS) (L : jL) (Q : Option Value → jS → jL → Prop) : Prop := cI G l mX12_refusal d [.ref 71, .int x1, .int x2] I L (fun r1 I1 L1 => (if r1 = 0 then (vp_in (((60 : Int32) * x1) + x2) 360 ∧ (Q (some (.long (L1 91 ((((60 : Int32) * x1) + x2).toNatClampNeg)))) I1 L1)) else (Q (some (.long (-9223372036854775808 : Int64))) I1 L1)))
set_option maxRecDepth 100000 in
set_option maxHeartbeats 4000000 in
theorem wX12_element_ok {G : jG} {l : Launch} {d : Nat} {Q : Option Value → jS → jL → Prop} {x1 : Int32} {x2 : Int32} {I : jS} {L : jL} (h : wX12_element G l d x1 x2 I L Q) : cM G l mX12_element (d + 1) [.ref 71, .int x1, .int x2] I L Q := by
  rw [wX12_element] at h
  show jCall G l yX12_element cX12_element 3 (some .long) (d + 1) 0 0 _ (jKS, I, L, jR0) _
  refine jCall_of (n0 := 0) (ls := [some (.ref 71), some (.int x1), some (.int x2)]) (by decide +kernel) rfl (Nat.le_of_ble_eq_true rfl) (jQm_of ?_)
  refine jr_aload_n dX12_element_0 rfl rfl ?_
  refine jr_iload_n dX12_element_1 rfl rfl ?_
  refine jr_iload_n dX12_element_2 rfl rfl ?_
  refine jr_callV (mc2 := 0) (mc := 0) (ms2 := 0) (ms := 0) vm_X12_399 (av := [.int x1, .int x2]) (st := []) rfl rfl ks_71 (by decide) rfl (Nat.le_of_ble_eq_true rfl) dX12_element_3 (cI_use (M := (yX12_refusal, cX12_refusal, 3, some .int)) h ?_)
  intro r1 I1 L1 h
  refine jr_if_eq dX12_element_6 (tgt := 15) (by decide) (fun c => ?_) (fun c => ?_)
  · rw [if_pos c] at h
    refine jr_aload_n dX12_element_15 rfl rfl ?_
    refine jr_geta ff_X12_74 ks_71 rr_71_51 dX12_element_16 ?_
    refine jr_bipush dX12_element_19 kbp_60 ?_
    refine jr_iload_n dX12_element_21 rfl rfl ?_
    refine jr_imul dX12_element_22 ?_
    refine jr_iload_n dX12_element_23 rfl rfl ?_
    refine jr_iadd dX12_element_24 ?_
    obtain ⟨g2, h⟩ := h
    refine jv_laload rfl rfl ks_91 dX12_element_25 g2 ?_
    exact jr_lreturn dX12_element_26 ⟨Or.inr (Or.inr (Or.inl ⟨rfl, _, rfl⟩)), _, _, rfl, h⟩
  · rw [if_neg c] at h
    refine jr_ldc2 kl_X12_316 dX12_element_9 ?_
    refine jr_goto dX12_element_12 (tgt := 26) (by decide) ?_
    exact jr_lreturn dX12_element_26 ⟨Or.inr (Or.inr (Or.inl ⟨rfl, _, rfl⟩)), _, _, rfl, h⟩
def wX12_shift_150 (G : jG) (l : Launch) (d : Nat) (Q : Option Value → jS → jL → Prop) : Nat → Int32 → Int32 → Int32 → Int32 → jS → jL → Prop
  | 0, _, _, _, _, _, _ => False
  | n150 + 1, x3, x4, x5, x6, I, L => if x5 ≤ x6 then (Q (some (.int x5)) I L) else (vp_in x6 60 ∧ (vp_in ((((60 : Int32) * x3) + x4) + x6) 360 ∧ ((wX12_shift_150 G l d Q n150) x3 x4 x5 (x6 + (1 : Int32)) I (u2L L 91 (((((60 : Int32) * x3) + x4) + x6).toNatClampNeg) (L 92 x6.toNatClampNeg)))))
set_option maxRecDepth 100000 in
set_option maxHeartbeats 4000000 in
theorem wX12_shift_150_ok {G : jG} {l : Launch} {d : Nat} {Q : Option Value → jS → jL → Prop} : ∀ (n : Nat) (x3 : Int32) (x4 : Int32) (x5 : Int32) (x6 : Int32) (I : jS) (L : jL), wX12_shift_150 G l d Q n x3 x4 x5 x6 I L → J G l yX12_shift cX12_shift 7 (d + 1) 0 0 150 [some (.ref 71), none, none, some (.int x3), some (.int x4), some (.int x5), some (.int x6)] [] (jKS, I, L, jR0) (jQm (some .int) Q) := by
  intro n
  induction n with
  | zero => intro x3 x4 x5 x6 I L h; exact h.elim
  | succ n ih =>
    intro x3 x4 x5 x6 I L h
    rw [wX12_shift_150] at h
    refine jr_iload dX12_shift_150 rfl ?_
    refine jr_iload dX12_shift_152 rfl ?_
    refine jr_icmp_ge dX12_shift_154 (tgt := 185) (by decide) (fun c => ?_) (fun c => ?_)
    · rw [if_pos c] at h
      refine jr_iload dX12_shift_185 rfl ?_
      exact jr_ireturn dX12_shift_187 ⟨Or.inr (Or.inl ⟨rfl, _, rfl⟩), _, _, rfl, h⟩
    · rw [if_neg c] at h
      refine jr_aload_n dX12_shift_157 rfl rfl ?_
      refine jr_geta ff_X12_74 ks_71 rr_71_51 dX12_shift_158 ?_
      refine jr_bipush dX12_shift_161 kbp_60 ?_
      refine jr_iload_n dX12_shift_163 rfl rfl ?_
      refine jr_imul dX12_shift_164 ?_
      refine jr_iload dX12_shift_165 rfl ?_
      refine jr_iadd dX12_shift_167 ?_
      refine jr_iload dX12_shift_168 rfl ?_
      refine jr_iadd dX12_shift_170 ?_
      refine jr_aload_n dX12_shift_171 rfl rfl ?_
      refine jr_geta ff_X12_78 ks_71 rr_71_52 dX12_shift_172 ?_
      refine jr_iload dX12_shift_175 rfl ?_
      obtain ⟨g1, h⟩ := h
      refine jv_laload rfl rfl ks_92 dX12_shift_177 g1 ?_
      obtain ⟨g2, h⟩ := h
      refine jr_lastore rfl ks_91 dX12_shift_178 g2 ?_
      refine jr_iinc dX12_shift_179 rfl (by rw [kic_1]) (by decide) rfl ?_
      refine jr_goto dX12_shift_182 (tgt := 150) (by decide) ?_
      exact J.sub (ih _ _ _ _ _ _ h) (jsub_some (jsub_none (jsub_none (jsub_some (jsub_some (jsub_some (jsub_some jsub_nil)))))))
def wX12_shift_113 (G : jG) (l : Launch) (d : Nat) (Q : Option Value → jS → jL → Prop) : Nat → Int32 → Int32 → Int32 → Int32 → Int32 → Int32 → jS → jL → Prop
  | 0, _, _, _, _, _, _, _, _ => False
  | n113 + 1, x1, x2, x3, x4, x5, x6, I, L => if x5 ≤ x6 then (∃ e150 : Nat, wX12_shift_150 G l d Q e150 x3 x4 x5 (0 : Int32) I L) else (vp_in ((((60 : Int32) * x1) + x2) + x6) 360 ∧ (vp_in x6 60 ∧ ((wX12_shift_113 G l d Q n113) x1 x2 x3 x4 x5 (x6 + (1 : Int32)) I (u2L L 92 x6.toNatClampNeg (L 91 (((((60 : Int32) * x1) + x2) + x6).toNatClampNeg))))))
set_option maxRecDepth 100000 in
set_option maxHeartbeats 4000000 in
theorem wX12_shift_113_ok {G : jG} {l : Launch} {d : Nat} {Q : Option Value → jS → jL → Prop} : ∀ (n : Nat) (x1 : Int32) (x2 : Int32) (x3 : Int32) (x4 : Int32) (x5 : Int32) (x6 : Int32) (I : jS) (L : jL), wX12_shift_113 G l d Q n x1 x2 x3 x4 x5 x6 I L → J G l yX12_shift cX12_shift 7 (d + 1) 0 0 113 [some (.ref 71), some (.int x1), some (.int x2), some (.int x3), some (.int x4), some (.int x5), some (.int x6)] [] (jKS, I, L, jR0) (jQm (some .int) Q) := by
  intro n
  induction n with
  | zero => intro x1 x2 x3 x4 x5 x6 I L h; exact h.elim
  | succ n ih =>
    intro x1 x2 x3 x4 x5 x6 I L h
    rw [wX12_shift_113] at h
    refine jr_iload dX12_shift_113 rfl ?_
    refine jr_iload dX12_shift_115 rfl ?_
    refine jr_icmp_ge dX12_shift_117 (tgt := 147) (by decide) (fun c => ?_) (fun c => ?_)
    · rw [if_pos c] at h
      refine jr_iconst dX12_shift_147 kic_0 ?_
      refine jr_istore dX12_shift_148 (by decide) rfl ?_
      obtain ⟨e150, h⟩ := h
      exact J.sub (wX12_shift_150_ok  e150 _ _ _ _ _ _ h) (jsub_some (jsub_none (jsub_none (jsub_some (jsub_some (jsub_some (jsub_some jsub_nil)))))))
    · rw [if_neg c] at h
      refine jr_aload_n dX12_shift_120 rfl rfl ?_
      refine jr_geta ff_X12_78 ks_71 rr_71_52 dX12_shift_121 ?_
      refine jr_iload dX12_shift_124 rfl ?_
      refine jr_aload_n dX12_shift_126 rfl rfl ?_
      refine jr_geta ff_X12_74 ks_71 rr_71_51 dX12_shift_127 ?_
      refine jr_bipush dX12_shift_130 kbp_60 ?_
      refine jr_iload_n dX12_shift_132 rfl rfl ?_
      refine jr_imul dX12_shift_133 ?_
      refine jr_iload_n dX12_shift_134 rfl rfl ?_
      refine jr_iadd dX12_shift_135 ?_
      refine jr_iload dX12_shift_136 rfl ?_
      refine jr_iadd dX12_shift_138 ?_
      obtain ⟨g1, h⟩ := h
      refine jv_laload rfl rfl ks_91 dX12_shift_139 g1 ?_
      obtain ⟨g2, h⟩ := h
      refine jr_lastore rfl ks_92 dX12_shift_140 g2 ?_
      refine jr_iinc dX12_shift_141 rfl (by rw [kic_1]) (by decide) rfl ?_
      refine jr_goto dX12_shift_144 (tgt := 113) (by decide) ?_
      exact J.sub (ih _ _ _ _ _ _ _ _ h) (jsub_some (jsub_some (jsub_some (jsub_some (jsub_some (jsub_some (jsub_some jsub_nil)))))))
def wX12_shift (G : jG) (l : Launch) (d : Nat) (x1 : Int32) (x2 : Int32) (x3 : Int32) (x4 : Int32) (x5 : Int32) (I : jS) (L : jL) (Q : Option Value → jS → jL → Prop) : Prop := cI G l mX12_isShelf d [.int x1] I L (fun r1 I1 L1 => (if r1 = 0 then (Q (some (.int (-1 : Int32))) I1 L1) else (cI G l mX12_isShelf d [.int x3] I1 L1 (fun r2 I2 L2 => (if r2 = 0 then (Q (some (.int (-1 : Int32))) I2 L2) else (vp_in x1 6 ∧ (if (I2 89 x1.toNatClampNeg) < 0 then (Q (some (.int (-11 : Int32))) I2 L2) else (vp_in x3 6 ∧ (if 0 ≤ (I2 89 x3.toNatClampNeg) then (if (I2 89 x1.toNatClampNeg) < (50 : Int32) then (Q (some (.int (-12 : Int32))) I2 L2) else (if (I2 89 x1.toNatClampNeg) = (I2 89 x3.toNatClampNeg) then (if x5 < 0 then (Q (some (.int (-13 : Int32))) I2 L2) else (if x2 < 0 then (Q (some (.int (-13 : Int32))) I2 L2) else (if x4 < 0 then (Q (some (.int (-13 : Int32))) I2 L2) else (if ((I2 90 x1.toNatClampNeg) - x5) < x2 then (Q (some (.int (-13 : Int32))) I2 L2) else (if x4 ≤ ((I2 90 x3.toNatClampNeg) - x5) then (∃ e113 : Nat, wX12_shift_113 G l d Q e113 x1 x2 x3 x4 x5 (0 : Int32) I2 L2) else (Q (some (.int (-13 : Int32))) I2 L2)))))) else (Q (some (.int (-12 : Int32))) I2 L2))) else (Q (some (.int (-11 : Int32))) I2 L2))))))))))
set_option maxRecDepth 100000 in
set_option maxHeartbeats 4000000 in
theorem wX12_shift_ok {G : jG} {l : Launch} {d : Nat} {Q : Option Value → jS → jL → Prop} {x1 : Int32} {x2 : Int32} {x3 : Int32} {x4 : Int32} {x5 : Int32} {I : jS} {L : jL} (h : wX12_shift G l d x1 x2 x3 x4 x5 I L Q) : cM G l mX12_shift (d + 1) [.ref 71, .int x1, .int x2, .int x3, .int x4, .int x5] I L Q := by
  rw [wX12_shift] at h
  show jCall G l yX12_shift cX12_shift 7 (some .int) (d + 1) 0 0 _ (jKS, I, L, jR0) _
  refine jCall_of (n0 := 1) (ls := [some (.ref 71), some (.int x1), some (.int x2), some (.int x3), some (.int x4), some (.int x5), none]) (by decide +kernel) rfl (Nat.le_of_ble_eq_true rfl) (jQm_of ?_)
  refine jr_iload_n dX12_shift_0 rfl rfl ?_
  refine jr_callS (mc2 := 0) (mc := 0) (ms2 := 0) (ms := 0) vm_X12_110 (av := [.int x1]) (st := []) rfl rfl (Nat.le_of_ble_eq_true rfl) dX12_shift_1 (cI_use (M := (yX12_isShelf, cX12_isShelf, 1, some .boolean)) h ?_)
  intro r1 I1 L1 h
  refine jr_if_eq dX12_shift_4 (tgt := 14) (by decide) (fun c => ?_) (fun c => ?_)
  · rw [if_pos c] at h
    refine jr_iconst dX12_shift_14 kic_m1 ?_
    exact jr_ireturn dX12_shift_15 ⟨Or.inr (Or.inl ⟨rfl, _, rfl⟩), _, _, rfl, h⟩
  · rw [if_neg c] at h
    refine jr_iload_n dX12_shift_7 rfl rfl ?_
    refine jr_callS (mc2 := 0) (mc := 0) (ms2 := 0) (ms := 0) vm_X12_110 (av := [.int x3]) (st := []) rfl rfl (Nat.le_of_ble_eq_true rfl) dX12_shift_8 (cI_use (M := (yX12_isShelf, cX12_isShelf, 1, some .boolean)) h ?_)
    intro r2 I2 L2 h
    refine jr_if_ne dX12_shift_11 (tgt := 16) (by decide) (fun c => ?_) (fun c => ?_)
    · rw [if_neg c] at h
      refine jr_aload_n dX12_shift_16 rfl rfl ?_
      refine jr_geta ff_X12_68 ks_71 rr_71_49 dX12_shift_17 ?_
      refine jr_iload_n dX12_shift_20 rfl rfl ?_
      obtain ⟨g3, h⟩ := h
      refine jv_iaload rfl rfl ks_89 dX12_shift_21 g3 ?_
      refine jr_if_lt dX12_shift_22 (tgt := 34) (by decide) (fun c => ?_) (fun c => ?_)
      · rw [if_pos c] at h
        refine jr_bipush dX12_shift_34 kbp_m11 ?_
        exact jr_ireturn dX12_shift_36 ⟨Or.inr (Or.inl ⟨rfl, _, rfl⟩), _, _, rfl, h⟩
      · rw [if_neg c] at h
        refine jr_aload_n dX12_shift_25 rfl rfl ?_
        refine jr_geta ff_X12_68 ks_71 rr_71_49 dX12_shift_26 ?_
        refine jr_iload_n dX12_shift_29 rfl rfl ?_
        obtain ⟨g4, h⟩ := h
        refine jv_iaload rfl rfl ks_89 dX12_shift_30 g4 ?_
        refine jr_if_ge dX12_shift_31 (tgt := 37) (by decide) (fun c => ?_) (fun c => ?_)
        · rw [if_pos c] at h
          refine jr_aload_n dX12_shift_37 rfl rfl ?_
          refine jr_geta ff_X12_68 ks_71 rr_71_49 dX12_shift_38 ?_
          refine jr_iload_n dX12_shift_41 rfl rfl ?_
          refine jv_iaload rfl rfl ks_89 dX12_shift_42 g3 ?_
          refine jr_bipush dX12_shift_43 kbp_50 ?_
          refine jr_icmp_lt dX12_shift_45 (tgt := 63) (by decide) (fun c => ?_) (fun c => ?_)
          · rw [if_pos c] at h
            refine jr_bipush dX12_shift_63 kbp_m12 ?_
            exact jr_ireturn dX12_shift_65 ⟨Or.inr (Or.inl ⟨rfl, _, rfl⟩), _, _, rfl, h⟩
          · rw [if_neg c] at h
            refine jr_aload_n dX12_shift_48 rfl rfl ?_
            refine jr_geta ff_X12_68 ks_71 rr_71_49 dX12_shift_49 ?_
            refine jr_iload_n dX12_shift_52 rfl rfl ?_
            refine jv_iaload rfl rfl ks_89 dX12_shift_53 g3 ?_
            refine jr_aload_n dX12_shift_54 rfl rfl ?_
            refine jr_geta ff_X12_68 ks_71 rr_71_49 dX12_shift_55 ?_
            refine jr_iload_n dX12_shift_58 rfl rfl ?_
            refine jv_iaload rfl rfl ks_89 dX12_shift_59 g4 ?_
            refine jr_icmp_eq dX12_shift_60 (tgt := 66) (by decide) (fun c => ?_) (fun c => ?_)
            · rw [if_pos c] at h
              refine jr_iload dX12_shift_66 rfl ?_
              refine jr_if_lt dX12_shift_68 (tgt := 107) (by decide) (fun c => ?_) (fun c => ?_)
              · rw [if_pos c] at h
                refine jr_bipush dX12_shift_107 kbp_m13 ?_
                exact jr_ireturn dX12_shift_109 ⟨Or.inr (Or.inl ⟨rfl, _, rfl⟩), _, _, rfl, h⟩
              · rw [if_neg c] at h
                refine jr_iload_n dX12_shift_71 rfl rfl ?_
                refine jr_if_lt dX12_shift_72 (tgt := 107) (by decide) (fun c => ?_) (fun c => ?_)
                · rw [if_pos c] at h
                  refine jr_bipush dX12_shift_107 kbp_m13 ?_
                  exact jr_ireturn dX12_shift_109 ⟨Or.inr (Or.inl ⟨rfl, _, rfl⟩), _, _, rfl, h⟩
                · rw [if_neg c] at h
                  refine jr_iload dX12_shift_75 rfl ?_
                  refine jr_if_lt dX12_shift_77 (tgt := 107) (by decide) (fun c => ?_) (fun c => ?_)
                  · rw [if_pos c] at h
                    refine jr_bipush dX12_shift_107 kbp_m13 ?_
                    exact jr_ireturn dX12_shift_109 ⟨Or.inr (Or.inl ⟨rfl, _, rfl⟩), _, _, rfl, h⟩
                  · rw [if_neg c] at h
                    refine jr_iload_n dX12_shift_80 rfl rfl ?_
                    refine jr_aload_n dX12_shift_81 rfl rfl ?_
                    refine jr_geta ff_X12_71 ks_71 rr_71_50 dX12_shift_82 ?_
                    refine jr_iload_n dX12_shift_85 rfl rfl ?_
                    refine jv_iaload rfl rfl ks_90 dX12_shift_86 g3 ?_
                    refine jr_iload dX12_shift_87 rfl ?_
                    refine jr_isub dX12_shift_89 ?_
                    refine jr_icmp_gt dX12_shift_90 (tgt := 107) (by decide) (fun c => ?_) (fun c => ?_)
                    · rw [if_pos c] at h
                      refine jr_bipush dX12_shift_107 kbp_m13 ?_
                      exact jr_ireturn dX12_shift_109 ⟨Or.inr (Or.inl ⟨rfl, _, rfl⟩), _, _, rfl, h⟩
                    · rw [if_neg c] at h
                      refine jr_iload dX12_shift_93 rfl ?_
                      refine jr_aload_n dX12_shift_95 rfl rfl ?_
                      refine jr_geta ff_X12_71 ks_71 rr_71_50 dX12_shift_96 ?_
                      refine jr_iload_n dX12_shift_99 rfl rfl ?_
                      refine jv_iaload rfl rfl ks_90 dX12_shift_100 g4 ?_
                      refine jr_iload dX12_shift_101 rfl ?_
                      refine jr_isub dX12_shift_103 ?_
                      refine jr_icmp_le dX12_shift_104 (tgt := 110) (by decide) (fun c => ?_) (fun c => ?_)
                      · rw [if_pos c] at h
                        refine jr_iconst dX12_shift_110 kic_0 ?_
                        refine jr_istore dX12_shift_111 (by decide) rfl ?_
                        obtain ⟨e113, h⟩ := h
                        exact J.sub (wX12_shift_113_ok  e113 _ _ _ _ _ _ _ _ h) (jsub_some (jsub_some (jsub_some (jsub_some (jsub_some (jsub_some (jsub_some jsub_nil)))))))
                      · rw [if_neg c] at h
                        refine jr_bipush dX12_shift_107 kbp_m13 ?_
                        exact jr_ireturn dX12_shift_109 ⟨Or.inr (Or.inl ⟨rfl, _, rfl⟩), _, _, rfl, h⟩
            · rw [if_neg c] at h
              refine jr_bipush dX12_shift_63 kbp_m12 ?_
              exact jr_ireturn dX12_shift_65 ⟨Or.inr (Or.inl ⟨rfl, _, rfl⟩), _, _, rfl, h⟩
        · rw [if_neg c] at h
          refine jr_bipush dX12_shift_34 kbp_m11 ?_
          exact jr_ireturn dX12_shift_36 ⟨Or.inr (Or.inl ⟨rfl, _, rfl⟩), _, _, rfl, h⟩
    · rw [if_pos c] at h
      refine jr_iconst dX12_shift_14 kic_m1 ?_
      exact jr_ireturn dX12_shift_15 ⟨Or.inr (Or.inl ⟨rfl, _, rfl⟩), _, _, rfl, h⟩
def wX12_taken_75 (G : jG) (l : Launch) (d : Nat) (Q : Option Value → jS → jL → Prop) (x1 : Int32) (x2 : Int32) (x3 : Int32) (I : jS) (L : jL) : Prop := if x3 = x2 then (vp_in x1 6 ∧ (cI G l mX12_kindOf d [.ref 71, .int (I 89 x1.toNatClampNeg)] I L (fun r2 I2 L2 => (Q (some (.int r2)) I2 L2)))) else (Q (some (.int (-12 : Int32))) I L)
set_option maxRecDepth 100000 in
set_option maxHeartbeats 4000000 in
theorem wX12_taken_75_ok {G : jG} {l : Launch} {d : Nat} {Q : Option Value → jS → jL → Prop} : ∀ (x1 : Int32) (x2 : Int32) (x3 : Int32) (I : jS) (L : jL), wX12_taken_75 G l d Q x1 x2 x3 I L → J G l yX12_taken cX12_taken 4 (d + 1) 0 0 75 [some (.ref 71), some (.int x1), some (.int x2), some (.int x3)] [] (jKS, I, L, jR0) (jQm (some .int) Q) := by
  intro x1 x2 x3 I L h
  rw [wX12_taken_75] at h
  refine jr_iload_n dX12_taken_75 rfl rfl ?_
  refine jr_iload_n dX12_taken_76 rfl rfl ?_
  refine jr_icmp_ne dX12_taken_77 (tgt := 93) (by decide) (fun c => ?_) (fun c => ?_)
  · rw [if_neg c] at h
    refine jr_bipush dX12_taken_93 kbp_m12 ?_
    exact jr_ireturn dX12_taken_95 ⟨Or.inr (Or.inl ⟨rfl, _, rfl⟩), _, _, rfl, h⟩
  · rw [if_pos c] at h
    refine jr_aload_n dX12_taken_80 rfl rfl ?_
    refine jr_aload_n dX12_taken_81 rfl rfl ?_
    refine jr_geta ff_X12_68 ks_71 rr_71_49 dX12_taken_82 ?_
    refine jr_iload_n dX12_taken_85 rfl rfl ?_
    obtain ⟨g1, h⟩ := h
    refine jv_iaload rfl rfl ks_89 dX12_taken_86 g1 ?_
    refine jr_callV (mc2 := 0) (mc := 0) (ms2 := 0) (ms := 0) vm_X12_406 (av := [.int (I 89 x1.toNatClampNeg)]) (st := []) rfl rfl ks_71 (by decide) rfl (Nat.le_of_ble_eq_true rfl) dX12_taken_87 (cI_use (M := (yX12_kindOf, cX12_kindOf, 2, some .int)) h ?_)
    intro r2 I2 L2 h
    refine jr_goto dX12_taken_90 (tgt := 95) (by decide) ?_
    exact jr_ireturn dX12_taken_95 ⟨Or.inr (Or.inl ⟨rfl, _, rfl⟩), _, _, rfl, h⟩
def wX12_taken_58 (G : jG) (l : Launch) (d : Nat) (Q : Option Value → jS → jL → Prop) : Nat → Int32 → Int32 → Int32 → jS → jL → Prop
  | 0, _, _, _, _, _ => False
  | n58 + 1, x1, x2, x3, I, L => if x3 = x2 then (wX12_taken_75 G l d Q x1 x2 x3 I L) else (if x3 ≤ 0 then (wX12_taken_75 G l d Q x1 x2 x3 I L) else (cI G l mX12_above d [.int x3] I L (fun r1 I1 L1 => ((wX12_taken_58 G l d Q n58) x1 x2 r1 I1 L1))))
set_option maxRecDepth 100000 in
set_option maxHeartbeats 4000000 in
theorem wX12_taken_58_ok {G : jG} {l : Launch} {d : Nat} {Q : Option Value → jS → jL → Prop} : ∀ (n : Nat) (x1 : Int32) (x2 : Int32) (x3 : Int32) (I : jS) (L : jL), wX12_taken_58 G l d Q n x1 x2 x3 I L → J G l yX12_taken cX12_taken 4 (d + 1) 0 0 58 [some (.ref 71), some (.int x1), some (.int x2), some (.int x3)] [] (jKS, I, L, jR0) (jQm (some .int) Q) := by
  intro n
  induction n with
  | zero => intro x1 x2 x3 I L h; exact h.elim
  | succ n ih =>
    intro x1 x2 x3 I L h
    rw [wX12_taken_58] at h
    refine jr_iload_n dX12_taken_58 rfl rfl ?_
    refine jr_iload_n dX12_taken_59 rfl rfl ?_
    refine jr_icmp_eq dX12_taken_60 (tgt := 75) (by decide) (fun c => ?_) (fun c => ?_)
    · rw [if_pos c] at h
      exact J.sub (wX12_taken_75_ok  _ _ _ _ _ h) (jsub_some (jsub_some (jsub_some (jsub_some jsub_nil))))
    · rw [if_neg c] at h
      refine jr_iload_n dX12_taken_63 rfl rfl ?_
      refine jr_if_le dX12_taken_64 (tgt := 75) (by decide) (fun c => ?_) (fun c => ?_)
      · rw [if_pos c] at h
        exact J.sub (wX12_taken_75_ok  _ _ _ _ _ h) (jsub_some (jsub_some (jsub_some (jsub_some jsub_nil))))
      · rw [if_neg c] at h
        refine jr_iload_n dX12_taken_67 rfl rfl ?_
        refine jr_callS (mc2 := 0) (mc := 0) (ms2 := 0) (ms := 0) vm_X12_409 (av := [.int x3]) (st := []) rfl rfl (Nat.le_of_ble_eq_true rfl) dX12_taken_68 (cI_use (M := (yX12_above, cX12_above, 1, some .int)) h ?_)
        intro r1 I1 L1 h
        refine jr_istore_n dX12_taken_71 rfl (by decide) rfl ?_
        refine jr_goto dX12_taken_72 (tgt := 58) (by decide) ?_
        exact J.sub (ih _ _ _ _ _ h) (jsub_some (jsub_some (jsub_some (jsub_some jsub_nil))))
def wX12_taken (G : jG) (l : Launch) (d : Nat) (x1 : Int32) (x2 : Int32) (I : jS) (L : jL) (Q : Option Value → jS → jL → Prop) : Prop := cI G l mX12_isShelf d [.int x1] I L (fun r1 I1 L1 => (if r1 = 0 then (Q (some (.int (-1 : Int32))) I1 L1) else (cI G l mX12_within d [.long (x2.toInt64), .long (0 : Int64), .long (7 : Int64)] I1 L1 (fun r2 I2 L2 => (if r2 = 0 then (Q (some (.int (-1 : Int32))) I2 L2) else (vp_in x1 6 ∧ (if 0 ≤ (I2 89 x1.toNatClampNeg) then (if (I2 89 x1.toNatClampNeg) < (50 : Int32) then (cI G l mX12_kindOf d [.ref 71, .int (I2 89 x1.toNatClampNeg)] I2 L2 (fun r4 I4 L4 => (∃ e58 : Nat, wX12_taken_58 G l d Q e58 x1 x2 r4 I4 L4))) else (Q (some (.int (-12 : Int32))) I2 L2)) else (Q (some (.int (-11 : Int32))) I2 L2))))))))
set_option maxRecDepth 100000 in
set_option maxHeartbeats 4000000 in
theorem wX12_taken_ok {G : jG} {l : Launch} {d : Nat} {Q : Option Value → jS → jL → Prop} {x1 : Int32} {x2 : Int32} {I : jS} {L : jL} (h : wX12_taken G l d x1 x2 I L Q) : cM G l mX12_taken (d + 1) [.ref 71, .int x1, .int x2] I L Q := by
  rw [wX12_taken] at h
  show jCall G l yX12_taken cX12_taken 4 (some .int) (d + 1) 0 0 _ (jKS, I, L, jR0) _
  refine jCall_of (n0 := 1) (ls := [some (.ref 71), some (.int x1), some (.int x2), none]) (by decide +kernel) rfl (Nat.le_of_ble_eq_true rfl) (jQm_of ?_)
  refine jr_iload_n dX12_taken_0 rfl rfl ?_
  refine jr_callS (mc2 := 0) (mc := 0) (ms2 := 0) (ms := 0) vm_X12_110 (av := [.int x1]) (st := []) rfl rfl (Nat.le_of_ble_eq_true rfl) dX12_taken_1 (cI_use (M := (yX12_isShelf, cX12_isShelf, 1, some .boolean)) h ?_)
  intro r1 I1 L1 h
  refine jr_if_eq dX12_taken_4 (tgt := 19) (by decide) (fun c => ?_) (fun c => ?_)
  · rw [if_pos c] at h
    refine jr_iconst dX12_taken_19 kic_m1 ?_
    exact jr_ireturn dX12_taken_20 ⟨Or.inr (Or.inl ⟨rfl, _, rfl⟩), _, _, rfl, h⟩
  · rw [if_neg c] at h
    refine jr_iload_n dX12_taken_7 rfl rfl ?_
    refine jr_i2l dX12_taken_8 ?_
    refine jr_lconst dX12_taken_9 klc_0 ?_
    refine jr_ldc2 kl_X12_114 dX12_taken_10 ?_
    refine jr_callS (mc2 := 0) (mc := 0) (ms2 := 0) (ms := 0) vm_X12_96 (av := [.long (x2.toInt64), .long (0 : Int64), .long (7 : Int64)]) (st := []) rfl rfl (Nat.le_of_ble_eq_true rfl) dX12_taken_13 (cI_use (M := (yX12_within, cX12_within, 6, some .boolean)) h ?_)
    intro r2 I2 L2 h
    refine jr_if_ne dX12_taken_16 (tgt := 21) (by decide) (fun c => ?_) (fun c => ?_)
    · rw [if_neg c] at h
      refine jr_aload_n dX12_taken_21 rfl rfl ?_
      refine jr_geta ff_X12_68 ks_71 rr_71_49 dX12_taken_22 ?_
      refine jr_iload_n dX12_taken_25 rfl rfl ?_
      obtain ⟨g3, h⟩ := h
      refine jv_iaload rfl rfl ks_89 dX12_taken_26 g3 ?_
      refine jr_if_ge dX12_taken_27 (tgt := 33) (by decide) (fun c => ?_) (fun c => ?_)
      · rw [if_pos c] at h
        refine jr_aload_n dX12_taken_33 rfl rfl ?_
        refine jr_geta ff_X12_68 ks_71 rr_71_49 dX12_taken_34 ?_
        refine jr_iload_n dX12_taken_37 rfl rfl ?_
        refine jv_iaload rfl rfl ks_89 dX12_taken_38 g3 ?_
        refine jr_bipush dX12_taken_39 kbp_50 ?_
        refine jr_icmp_lt dX12_taken_41 (tgt := 47) (by decide) (fun c => ?_) (fun c => ?_)
        · rw [if_pos c] at h
          refine jr_aload_n dX12_taken_47 rfl rfl ?_
          refine jr_aload_n dX12_taken_48 rfl rfl ?_
          refine jr_geta ff_X12_68 ks_71 rr_71_49 dX12_taken_49 ?_
          refine jr_iload_n dX12_taken_52 rfl rfl ?_
          refine jv_iaload rfl rfl ks_89 dX12_taken_53 g3 ?_
          refine jr_callV (mc2 := 0) (mc := 0) (ms2 := 0) (ms := 0) vm_X12_406 (av := [.int (I2 89 x1.toNatClampNeg)]) (st := []) rfl rfl ks_71 (by decide) rfl (Nat.le_of_ble_eq_true rfl) dX12_taken_54 (cI_use (M := (yX12_kindOf, cX12_kindOf, 2, some .int)) h ?_)
          intro r4 I4 L4 h
          refine jr_istore_n dX12_taken_57 rfl (by decide) rfl ?_
          obtain ⟨e58, h⟩ := h
          exact J.sub (wX12_taken_58_ok  e58 _ _ _ _ _ h) (jsub_some (jsub_some (jsub_some (jsub_some jsub_nil))))
        · rw [if_neg c] at h
          refine jr_bipush dX12_taken_44 kbp_m12 ?_
          exact jr_ireturn dX12_taken_46 ⟨Or.inr (Or.inl ⟨rfl, _, rfl⟩), _, _, rfl, h⟩
      · rw [if_neg c] at h
        refine jr_bipush dX12_taken_30 kbp_m11 ?_
        exact jr_ireturn dX12_taken_32 ⟨Or.inr (Or.inl ⟨rfl, _, rfl⟩), _, _, rfl, h⟩
    · rw [if_pos c] at h
      refine jr_iconst dX12_taken_19 kic_m1 ?_
      exact jr_ireturn dX12_taken_20 ⟨Or.inr (Or.inl ⟨rfl, _, rfl⟩), _, _, rfl, h⟩
def wX12_count (G : jG) (l : Launch) (d : Nat) (x1 : Int32) (I : jS) (L : jL) (Q : Option Value → jS → jL → Prop) : Prop := if x1 = (0 : Int32) then (Q (some (.int (I 71 6))) I L) else (if x1 = (1 : Int32) then (cI G l mX12_weakMany d [.ref 71] I L (fun r1 I1 L1 => (Q (some (.int r1)) I1 L1))) else (if x1 = (2 : Int32) then (Q (some (.int (I 71 10))) I L) else (if x1 = (3 : Int32) then (Q (some (.int (I 71 5))) I L) else (if x1 = (4 : Int32) then (Q (some (.int (I 71 43))) I L) else (if x1 = (5 : Int32) then (Q (some (.int (I 71 46))) I L) else (Q (some (.int (-1 : Int32))) I L))))))
set_option maxRecDepth 100000 in
set_option maxHeartbeats 4000000 in
theorem wX12_count_ok {G : jG} {l : Launch} {d : Nat} {Q : Option Value → jS → jL → Prop} {x1 : Int32} {I : jS} {L : jL} (h : wX12_count G l d x1 I L Q) : cM G l mX12_count (d + 1) [.ref 71, .int x1] I L Q := by
  rw [wX12_count] at h
  show jCall G l yX12_count cX12_count 2 (some .int) (d + 1) 0 0 _ (jKS, I, L, jR0) _
  refine jCall_of (n0 := 0) (ls := [some (.ref 71), some (.int x1)]) (by decide +kernel) rfl (Nat.le_of_ble_eq_true rfl) (jQm_of ?_)
  refine jr_iload_n dX12_count_0 rfl rfl ?_
  by_cases c : x1 = (0 : Int32)
  · rw [if_pos c] at h
    refine jr_tableIn dX12_count_1 (jtl c (by decide)) (jtg c (by decide)) (off := 39) (jtb c (by decide)) (tgt := 40) (by decide) ?_
    refine jr_aload_n dX12_count_40 rfl rfl ?_
    refine jv_geti rfl ff_X12_93 ks_71 dX12_count_41 ?_
    exact jr_ireturn dX12_count_44 ⟨Or.inr (Or.inl ⟨rfl, _, rfl⟩), _, _, rfl, h⟩
  · rw [if_neg c] at h
    have c0 := c
    by_cases c : x1 = (1 : Int32)
    · rw [if_pos c] at h
      refine jr_tableIn dX12_count_1 (jtl c (by decide)) (jtg c (by decide)) (off := 44) (jtb c (by decide)) (tgt := 45) (by decide) ?_
      refine jr_aload_n dX12_count_45 rfl rfl ?_
      refine jr_callV (mc2 := 0) (mc := 0) (ms2 := 0) (ms := 0) vm_X12_412 (av := []) (st := []) rfl rfl ks_71 (by decide) rfl (Nat.le_of_ble_eq_true rfl) dX12_count_46 (cI_use (M := (yX12_weakMany, cX12_weakMany, 3, some .int)) h ?_)
      intro r1 I1 L1 h
      exact jr_ireturn dX12_count_49 ⟨Or.inr (Or.inl ⟨rfl, _, rfl⟩), _, _, rfl, h⟩
    · rw [if_neg c] at h
      have c1 := c
      by_cases c : x1 = (2 : Int32)
      · rw [if_pos c] at h
        refine jr_tableIn dX12_count_1 (jtl c (by decide)) (jtg c (by decide)) (off := 49) (jtb c (by decide)) (tgt := 50) (by decide) ?_
        refine jr_aload_n dX12_count_50 rfl rfl ?_
        refine jv_geti rfl ff_X12_158 ks_71 dX12_count_51 ?_
        exact jr_ireturn dX12_count_54 ⟨Or.inr (Or.inl ⟨rfl, _, rfl⟩), _, _, rfl, h⟩
      · rw [if_neg c] at h
        have c2 := c
        by_cases c : x1 = (3 : Int32)
        · rw [if_pos c] at h
          refine jr_tableIn dX12_count_1 (jtl c (by decide)) (jtg c (by decide)) (off := 54) (jtb c (by decide)) (tgt := 55) (by decide) ?_
          refine jr_aload_n dX12_count_55 rfl rfl ?_
          refine jv_geti rfl ff_X12_87 ks_71 dX12_count_56 ?_
          exact jr_ireturn dX12_count_59 ⟨Or.inr (Or.inl ⟨rfl, _, rfl⟩), _, _, rfl, h⟩
        · rw [if_neg c] at h
          have c3 := c
          by_cases c : x1 = (4 : Int32)
          · rw [if_pos c] at h
            refine jr_tableIn dX12_count_1 (jtl c (by decide)) (jtg c (by decide)) (off := 59) (jtb c (by decide)) (tgt := 60) (by decide) ?_
            refine jr_aload_n dX12_count_60 rfl rfl ?_
            refine jv_geti rfl ff_X12_367 ks_71 dX12_count_61 ?_
            exact jr_ireturn dX12_count_64 ⟨Or.inr (Or.inl ⟨rfl, _, rfl⟩), _, _, rfl, h⟩
          · rw [if_neg c] at h
            have c4 := c
            by_cases c : x1 = (5 : Int32)
            · rw [if_pos c] at h
              refine jr_tableIn dX12_count_1 (jtl c (by decide)) (jtg c (by decide)) (off := 64) (jtb c (by decide)) (tgt := 65) (by decide) ?_
              refine jr_aload_n dX12_count_65 rfl rfl ?_
              refine jv_geti rfl ff_X12_370 ks_71 dX12_count_66 ?_
              exact jr_ireturn dX12_count_69 ⟨Or.inr (Or.inl ⟨rfl, _, rfl⟩), _, _, rfl, h⟩
            · rw [if_neg c] at h
              have c5 := c
              refine jr_tableOut dX12_count_1 (by
                rcases Int.lt_or_le (x1).toInt (0) with q | q
                · exact Or.inl q
                · rcases Int.lt_or_le (5) (x1).toInt with q2 | q2
                  · exact Or.inr q2
                  · exfalso
                    have ec0 := lv_neT c0 (a := 0) rfl
                    have ec1 := lv_neT c1 (a := 1) rfl
                    have ec2 := lv_neT c2 (a := 2) rfl
                    have ec3 := lv_neT c3 (a := 3) rfl
                    have ec4 := lv_neT c4 (a := 4) rfl
                    have ec5 := lv_neT c5 (a := 5) rfl
                    omega) (tgt := 70) (by decide) ?_
              refine jr_iconst dX12_count_70 kic_m1 ?_
              exact jr_ireturn dX12_count_71 ⟨Or.inr (Or.inl ⟨rfl, _, rfl⟩), _, _, rfl, h⟩

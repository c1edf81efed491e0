def wX10_add (G : jG) (l : Launch) (d : Nat) (x1 : Int32) (I : jS) (L : jL) (Q : Option Value → jS → jL → Prop) : Prop := if (I 31 5) < 0 then (Q none I L) else (if (I 31 5) < (10 : Int32) then (vp_in (I 31 5) 10 ∧ (Q none (u2 (u2 I 35 ((I 31 5).toNatClampNeg) x1) 31 5 ((I 31 5) + (1 : Int32))) L)) else (Q none I L))
set_option maxRecDepth 100000 in
set_option maxHeartbeats 4000000 in
theorem wX10_add_ok {G : jG} {l : Launch} {d : Nat} {Q : Option Value → jS → jL → Prop} {x1 : Int32} {I : jS} {L : jL} (h : wX10_add G l d x1 I L Q) : cM G l mX10_add (d + 1) [.ref 31, .int x1] I L Q := by
  rw [wX10_add] at h
  show jCall G l yX10_add cX10_add 2 (none) (d + 1) 0 0 _ (jKS, I, L, jR0) _
  refine jCall_of (n0 := 0) (ls := [some (.ref 31), some (.int x1)]) (by decide +kernel) rfl (Nat.le_of_ble_eq_true rfl) (jQm_of ?_)
  refine jr_aload_n dX10_add_0 rfl rfl ?_
  refine jv_geti rfl ff_X10_33 ks_31 dX10_add_1 ?_
  refine jr_if_lt dX10_add_4 (tgt := 16) (by decide) (fun c => ?_) (fun c => ?_)
  · rw [if_pos c] at h
    exact jr_return dX10_add_16 ⟨Or.inl ⟨rfl, rfl⟩, _, _, rfl, h⟩
  · rw [if_neg c] at h
    refine jr_aload_n dX10_add_7 rfl rfl ?_
    refine jv_geti rfl ff_X10_33 ks_31 dX10_add_8 ?_
    refine jr_bipush dX10_add_11 kbp_10 ?_
    refine jr_icmp_lt dX10_add_13 (tgt := 17) (by decide) (fun c => ?_) (fun c => ?_)
    · rw [if_pos c] at h
      refine jr_aload_n dX10_add_17 rfl rfl ?_
      refine jr_geta ff_X10_26 ks_31 rr_31_3 dX10_add_18 ?_
      refine jr_aload_n dX10_add_21 rfl rfl ?_
      refine jv_geti rfl ff_X10_33 ks_31 dX10_add_22 ?_
      refine jr_iload_n dX10_add_25 rfl rfl ?_
      obtain ⟨g1, h⟩ := h
      refine jr_iastore rfl ks_35 dX10_add_26 g1 ?_
      refine jr_aload_n dX10_add_27 rfl rfl ?_
      refine jr_dup dX10_add_28 rfl ?_
      refine jv_geti (u2n (by decide)) ff_X10_33 ks_31 dX10_add_29 ?_
      refine jr_iconst dX10_add_32 kic_1 ?_
      refine jr_iadd dX10_add_33 ?_
      refine jr_puti ff_X10_33 ks_31 dX10_add_34 ?_
      exact jr_return dX10_add_37 ⟨Or.inl ⟨rfl, rfl⟩, _, _, rfl, h⟩
    · rw [if_neg c] at h
      exact jr_return dX10_add_16 ⟨Or.inl ⟨rfl, rfl⟩, _, _, rfl, h⟩
def wX10_goerAt (G : jG) (l : Launch) (d : Nat) (x1 : Int32) (I : jS) (L : jL) (Q : Option Value → jS → jL → Prop) : Prop := if x1 < 0 then (Q (some (.int (0 : Int32))) I L) else (if (I 31 5) ≤ x1 then (Q (some (.int (0 : Int32))) I L) else (if (10 : Int32) ≤ x1 then (Q (some (.int (0 : Int32))) I L) else (vp_in x1 10 ∧ (Q (some (.int (I 35 x1.toNatClampNeg))) I L))))
set_option maxRecDepth 100000 in
set_option maxHeartbeats 4000000 in
theorem wX10_goerAt_ok {G : jG} {l : Launch} {d : Nat} {Q : Option Value → jS → jL → Prop} {x1 : Int32} {I : jS} {L : jL} (h : wX10_goerAt G l d x1 I L Q) : cM G l mX10_goerAt (d + 1) [.ref 31, .int x1] I L Q := by
  rw [wX10_goerAt] at h
  show jCall G l yX10_goerAt cX10_goerAt 2 (some .int) (d + 1) 0 0 _ (jKS, I, L, jR0) _
  refine jCall_of (n0 := 0) (ls := [some (.ref 31), some (.int x1)]) (by decide +kernel) rfl (Nat.le_of_ble_eq_true rfl) (jQm_of ?_)
  refine jr_iload_n dX10_goerAt_0 rfl rfl ?_
  refine jr_if_lt dX10_goerAt_1 (tgt := 27) (by decide) (fun c => ?_) (fun c => ?_)
  · rw [if_pos c] at h
    refine jr_iconst dX10_goerAt_27 kic_0 ?_
    exact jr_ireturn dX10_goerAt_28 ⟨Or.inr (Or.inl ⟨rfl, _, rfl⟩), _, _, rfl, h⟩
  · rw [if_neg c] at h
    refine jr_iload_n dX10_goerAt_4 rfl rfl ?_
    refine jr_aload_n dX10_goerAt_5 rfl rfl ?_
    refine jv_geti rfl ff_X10_33 ks_31 dX10_goerAt_6 ?_
    refine jr_icmp_ge dX10_goerAt_9 (tgt := 27) (by decide) (fun c => ?_) (fun c => ?_)
    · rw [if_pos c] at h
      refine jr_iconst dX10_goerAt_27 kic_0 ?_
      exact jr_ireturn dX10_goerAt_28 ⟨Or.inr (Or.inl ⟨rfl, _, rfl⟩), _, _, rfl, h⟩
    · rw [if_neg c] at h
      refine jr_iload_n dX10_goerAt_12 rfl rfl ?_
      refine jr_bipush dX10_goerAt_13 kbp_10 ?_
      refine jr_icmp_ge dX10_goerAt_15 (tgt := 27) (by decide) (fun c => ?_) (fun c => ?_)
      · rw [if_pos c] at h
        refine jr_iconst dX10_goerAt_27 kic_0 ?_
        exact jr_ireturn dX10_goerAt_28 ⟨Or.inr (Or.inl ⟨rfl, _, rfl⟩), _, _, rfl, h⟩
      · rw [if_neg c] at h
        refine jr_aload_n dX10_goerAt_18 rfl rfl ?_
        refine jr_geta ff_X10_26 ks_31 rr_31_3 dX10_goerAt_19 ?_
        refine jr_iload_n dX10_goerAt_22 rfl rfl ?_
        obtain ⟨g1, h⟩ := h
        refine jv_iaload rfl rfl ks_35 dX10_goerAt_23 g1 ?_
        refine jr_goto dX10_goerAt_24 (tgt := 28) (by decide) ?_
        exact jr_ireturn dX10_goerAt_28 ⟨Or.inr (Or.inl ⟨rfl, _, rfl⟩), _, _, rfl, h⟩
def wX10_readOrder_19 (G : jG) (l : Launch) (d : Nat) (Q : Option Value → jS → jL → Prop) : Nat → Int32 → Int32 → Int32 → jS → jL → Prop
  | 0, _, _, _, _, _ => False
  | n19 + 1, x2, x4, x5, I, L => if x4 ≤ x5 then (Q none I L) else (cI G l mX9_byteAt d [.ref 57, .int x2, .int x5] I L (fun r1 I1 L1 => (if r1 < 0 then (Q none I1 L1) else (if r1 < (I1 1 1) then (cV G l mX10_add d [.ref 31, .int r1] I1 L1 (fun I2 L2 => ((wX10_readOrder_19 G l d Q n19) x2 x4 (x5 + (1 : Int32)) I2 L2))) else (Q none I1 L1)))))
set_option maxRecDepth 100000 in
set_option maxHeartbeats 4000000 in
theorem wX10_readOrder_19_ok {G : jG} {l : Launch} {d : Nat} {Q : Option Value → jS → jL → Prop} : ∀ (n : Nat) (x2 : Int32) (x4 : Int32) (x5 : Int32) (I : jS) (L : jL), wX10_readOrder_19 G l d Q n x2 x4 x5 I L → J G l yX10_readOrder cX10_readOrder 7 (d + 1) 0 0 19 [some (.ref 31), some (.ref 57), some (.int x2), none, some (.int x4), some (.int x5), none] [] (jKS, I, L, jR0) (jQm (none) Q) := by
  intro n
  induction n with
  | zero => intro x2 x4 x5 I L h; exact h.elim
  | succ n ih =>
    intro x2 x4 x5 I L h
    rw [wX10_readOrder_19] at h
    refine jr_iload dX10_readOrder_19 rfl ?_
    refine jr_iload dX10_readOrder_21 rfl ?_
    refine jr_icmp_ge dX10_readOrder_23 (tgt := 65) (by decide) (fun c => ?_) (fun c => ?_)
    · rw [if_pos c] at h
      exact jr_return dX10_readOrder_65 ⟨Or.inl ⟨rfl, rfl⟩, _, _, rfl, h⟩
    · rw [if_neg c] at h
      refine jr_aload_n dX10_readOrder_26 rfl rfl ?_
      refine jr_iload_n dX10_readOrder_27 rfl rfl ?_
      refine jr_iload dX10_readOrder_28 rfl ?_
      refine jr_callV (mc2 := 0) (mc := 0) (ms2 := 0) (ms := 0) vm_X10_55 (av := [.int x2, .int x5]) (st := []) rfl rfl ks_57 (by decide) rfl (Nat.le_of_ble_eq_true rfl) dX10_readOrder_30 (cI_use (M := (yX9_byteAt, cX9_byteAt, 3, some .int)) h ?_)
      intro r1 I1 L1 h
      refine jr_istore dX10_readOrder_33 (by decide) rfl ?_
      refine jr_iload dX10_readOrder_35 rfl ?_
      refine jr_if_lt dX10_readOrder_37 (tgt := 52) (by decide) (fun c => ?_) (fun c => ?_)
      · rw [if_pos c] at h
        exact jr_return dX10_readOrder_52 ⟨Or.inl ⟨rfl, rfl⟩, _, _, rfl, h⟩
      · rw [if_neg c] at h
        refine jr_iload dX10_readOrder_40 rfl ?_
        refine jr_aload_n dX10_readOrder_42 rfl rfl ?_
        refine jr_geta ff_X10_9 ks_31 rr_31_0 dX10_readOrder_43 ?_
        refine jv_geti rfl ff_X10_58 ks_1 dX10_readOrder_46 ?_
        refine jr_icmp_lt dX10_readOrder_49 (tgt := 53) (by decide) (fun c => ?_) (fun c => ?_)
        · rw [if_pos c] at h
          refine jr_aload_n dX10_readOrder_53 rfl rfl ?_
          refine jr_iload dX10_readOrder_54 rfl ?_
          refine jr_callV (mc2 := 0) (mc := 0) (ms2 := 0) (ms := 0) vm_X10_63 (av := [.int r1]) (st := []) rfl rfl ks_31 (by decide) rfl (Nat.le_of_ble_eq_true rfl) dX10_readOrder_56 (cV_use (M := (yX10_add, cX10_add, 2, none)) h ?_)
          intro I2 L2 h
          refine jr_iinc dX10_readOrder_59 rfl (by rw [kic_1]) (by decide) rfl ?_
          refine jr_goto dX10_readOrder_62 (tgt := 19) (by decide) ?_
          exact J.sub (ih _ _ _ _ _ h) (jsub_some (jsub_some (jsub_some (jsub_none (jsub_some (jsub_some (jsub_none jsub_nil)))))))
        · rw [if_neg c] at h
          exact jr_return dX10_readOrder_52 ⟨Or.inl ⟨rfl, rfl⟩, _, _, rfl, h⟩
def wX10_readOrder (G : jG) (l : Launch) (d : Nat) (x2 : Int32) (x3 : Int32) (I : jS) (L : jL) (Q : Option Value → jS → jL → Prop) : Prop := cI G l mX9_sizeOf d [.ref 57, .int x2] (u2 I 31 5 (0 : Int32)) L (fun r1 I1 L1 => (∃ e19 : Nat, wX10_readOrder_19 G l d Q e19 x2 (if r1 < x3 then r1 else x3) (0 : Int32) I1 L1))
set_option maxRecDepth 100000 in
set_option maxHeartbeats 4000000 in
theorem wX10_readOrder_ok {G : jG} {l : Launch} {d : Nat} {Q : Option Value → jS → jL → Prop} {x2 : Int32} {x3 : Int32} {I : jS} {L : jL} (h : wX10_readOrder G l d x2 x3 I L Q) : cM G l mX10_readOrder (d + 1) [.ref 31, .ref 57, .int x2, .int x3] I L Q := by
  rw [wX10_readOrder] at h
  show jCall G l yX10_readOrder cX10_readOrder 7 (none) (d + 1) 0 0 _ (jKS, I, L, jR0) _
  refine jCall_of (n0 := 3) (ls := [some (.ref 31), some (.ref 57), some (.int x2), some (.int x3), none, none, none]) (by decide +kernel) rfl (Nat.le_of_ble_eq_true rfl) (jQm_of ?_)
  refine jr_aload_n dX10_readOrder_0 rfl rfl ?_
  refine jr_iconst dX10_readOrder_1 kic_0 ?_
  refine jr_puti ff_X10_33 ks_31 dX10_readOrder_2 ?_
  refine jr_iload_n dX10_readOrder_5 rfl rfl ?_
  refine jr_aload_n dX10_readOrder_6 rfl rfl ?_
  refine jr_iload_n dX10_readOrder_7 rfl rfl ?_
  refine jr_callV (mc2 := 0) (mc := 0) (ms2 := 0) (ms := 0) vm_X10_43 (av := [.int x2]) (st := [.int x3]) rfl rfl ks_57 (by decide) rfl (Nat.le_of_ble_eq_true rfl) dX10_readOrder_8 (cI_use (M := (yX9_sizeOf, cX9_sizeOf, 2, some .int)) h ?_)
  intro r1 I1 L1 h
  refine jr_mmin mw_X10_49 (Nat.le_of_ble_eq_true rfl) dX10_readOrder_11 ?_
  refine jr_istore dX10_readOrder_14 (by decide) rfl ?_
  refine jr_iconst dX10_readOrder_16 kic_0 ?_
  refine jr_istore dX10_readOrder_17 (by decide) rfl ?_
  obtain ⟨e19, h⟩ := h
  exact J.sub (wX10_readOrder_19_ok  e19 _ _ _ _ _ h) (jsub_some (jsub_some (jsub_some (jsub_none (jsub_some (jsub_some (jsub_none jsub_nil)))))))
def wX10_alone (G : jG) (l : Launch) (d : Nat) (x1 : Int32) (I : jS) (L : jL) (Q : Option Value → jS → jL → Prop) : Prop := cV G l mX10_add d [.ref 31, .int x1] (u2 I 31 5 (0 : Int32)) L (fun I1 L1 => (Q none I1 L1))
set_option maxRecDepth 100000 in
set_option maxHeartbeats 4000000 in
theorem wX10_alone_ok {G : jG} {l : Launch} {d : Nat} {Q : Option Value → jS → jL → Prop} {x1 : Int32} {I : jS} {L : jL} (h : wX10_alone G l d x1 I L Q) : cM G l mX10_alone (d + 1) [.ref 31, .int x1] I L Q := by
  rw [wX10_alone] at h
  show jCall G l yX10_alone cX10_alone 2 (none) (d + 1) 0 0 _ (jKS, I, L, jR0) _
  refine jCall_of (n0 := 0) (ls := [some (.ref 31), some (.int x1)]) (by decide +kernel) rfl (Nat.le_of_ble_eq_true rfl) (jQm_of ?_)
  refine jr_aload_n dX10_alone_0 rfl rfl ?_
  refine jr_iconst dX10_alone_1 kic_0 ?_
  refine jr_puti ff_X10_33 ks_31 dX10_alone_2 ?_
  refine jr_aload_n dX10_alone_5 rfl rfl ?_
  refine jr_iload_n dX10_alone_6 rfl rfl ?_
  refine jr_callV (mc2 := 0) (mc := 0) (ms2 := 0) (ms := 0) vm_X10_63 (av := [.int x1]) (st := []) rfl rfl ks_31 (by decide) rfl (Nat.le_of_ble_eq_true rfl) dX10_alone_7 (cV_use (M := (yX10_add, cX10_add, 2, none)) h ?_)
  intro I1 L1 h
  exact jr_return dX10_alone_10 ⟨Or.inl ⟨rfl, rfl⟩, _, _, rfl, h⟩
def wX10_bySet_7 (G : jG) (l : Launch) (d : Nat) (Q : Option Value → jS → jL → Prop) : Nat → Int32 → Int32 → jS → jL → Prop
  | 0, _, _, _, _ => False
  | n7 + 1, x1, x2, I, L => if (I 1 1) ≤ x2 then (Q none I L) else (if ((x1 >>> (x2 &&& 31)) &&& (1 : Int32)) = (1 : Int32) then (cV G l mX10_add d [.ref 31, .int x2] I L (fun I1 L1 => ((wX10_bySet_7 G l d Q n7) x1 (x2 + (1 : Int32)) I1 L1))) else ((wX10_bySet_7 G l d Q n7) x1 (x2 + (1 : Int32)) I L))
set_option maxRecDepth 100000 in
set_option maxHeartbeats 4000000 in
theorem wX10_bySet_7_ok {G : jG} {l : Launch} {d : Nat} {Q : Option Value → jS → jL → Prop} : ∀ (n : Nat) (x1 : Int32) (x2 : Int32) (I : jS) (L : jL), wX10_bySet_7 G l d Q n x1 x2 I L → J G l yX10_bySet cX10_bySet 3 (d + 1) 0 0 7 [some (.ref 31), some (.int x1), some (.int x2)] [] (jKS, I, L, jR0) (jQm (none) Q) := by
  intro n
  induction n with
  | zero => intro x1 x2 I L h; exact h.elim
  | succ n ih =>
    intro x1 x2 I L h
    rw [wX10_bySet_7] at h
    refine jr_iload_n dX10_bySet_7 rfl rfl ?_
    refine jr_aload_n dX10_bySet_8 rfl rfl ?_
    refine jr_geta ff_X10_9 ks_31 rr_31_0 dX10_bySet_9 ?_
    refine jv_geti rfl ff_X10_58 ks_1 dX10_bySet_12 ?_
    refine jr_icmp_ge dX10_bySet_15 (tgt := 38) (by decide) (fun c => ?_) (fun c => ?_)
    · rw [if_pos c] at h
      exact jr_return dX10_bySet_38 ⟨Or.inl ⟨rfl, rfl⟩, _, _, rfl, h⟩
    · rw [if_neg c] at h
      refine jr_iload_n dX10_bySet_18 rfl rfl ?_
      refine jr_iload_n dX10_bySet_19 rfl rfl ?_
      refine jr_ishr dX10_bySet_20 ?_
      refine jr_iconst dX10_bySet_21 kic_1 ?_
      refine jr_iand dX10_bySet_22 ?_
      refine jr_iconst dX10_bySet_23 kic_1 ?_
      refine jr_icmp_ne dX10_bySet_24 (tgt := 32) (by decide) (fun c => ?_) (fun c => ?_)
      · rw [if_neg c] at h
        refine jr_iinc dX10_bySet_32 rfl (by rw [kic_1]) (by decide) rfl ?_
        refine jr_goto dX10_bySet_35 (tgt := 7) (by decide) ?_
        exact J.sub (ih _ _ _ _ h) (jsub_some (jsub_some (jsub_some jsub_nil)))
      · rw [if_pos c] at h
        refine jr_aload_n dX10_bySet_27 rfl rfl ?_
        refine jr_iload_n dX10_bySet_28 rfl rfl ?_
        refine jr_callV (mc2 := 0) (mc := 0) (ms2 := 0) (ms := 0) vm_X10_63 (av := [.int x2]) (st := []) rfl rfl ks_31 (by decide) rfl (Nat.le_of_ble_eq_true rfl) dX10_bySet_29 (cV_use (M := (yX10_add, cX10_add, 2, none)) h ?_)
        intro I1 L1 h
        refine jr_iinc dX10_bySet_32 rfl (by rw [kic_1]) (by decide) rfl ?_
        refine jr_goto dX10_bySet_35 (tgt := 7) (by decide) ?_
        exact J.sub (ih _ _ _ _ h) (jsub_some (jsub_some (jsub_some jsub_nil)))
def wX10_bySet (G : jG) (l : Launch) (d : Nat) (x1 : Int32) (I : jS) (L : jL) (Q : Option Value → jS → jL → Prop) : Prop := ∃ e7 : Nat, wX10_bySet_7 G l d Q e7 x1 (0 : Int32) (u2 I 31 5 (0 : Int32)) L
set_option maxRecDepth 100000 in
set_option maxHeartbeats 4000000 in
theorem wX10_bySet_ok {G : jG} {l : Launch} {d : Nat} {Q : Option Value → jS → jL → Prop} {x1 : Int32} {I : jS} {L : jL} (h : wX10_bySet G l d x1 I L Q) : cM G l mX10_bySet (d + 1) [.ref 31, .int x1] I L Q := by
  rw [wX10_bySet] at h
  show jCall G l yX10_bySet cX10_bySet 3 (none) (d + 1) 0 0 _ (jKS, I, L, jR0) _
  refine jCall_of (n0 := 1) (ls := [some (.ref 31), some (.int x1), none]) (by decide +kernel) rfl (Nat.le_of_ble_eq_true rfl) (jQm_of ?_)
  refine jr_aload_n dX10_bySet_0 rfl rfl ?_
  refine jr_iconst dX10_bySet_1 kic_0 ?_
  refine jr_puti ff_X10_33 ks_31 dX10_bySet_2 ?_
  refine jr_iconst dX10_bySet_5 kic_0 ?_
  refine jr_istore_n dX10_bySet_6 rfl (by decide) rfl ?_
  obtain ⟨e7, h⟩ := h
  exact J.sub (wX10_bySet_7_ok  e7 _ _ _ _ h) (jsub_some (jsub_some (jsub_some jsub_nil)))
def wX10_byNumbers (G : jG) (l : Launch) (d : Nat) (I : jS) (L : jL) (Q : Option Value → jS → jL → Prop) : Prop := cV G l mX10_byRule d [.ref 31, .int (3 : Int32)] I L (fun I1 L1 => (Q none I1 L1))
set_option maxRecDepth 100000 in
set_option maxHeartbeats 4000000 in
theorem wX10_byNumbers_ok {G : jG} {l : Launch} {d : Nat} {Q : Option Value → jS → jL → Prop} {I : jS} {L : jL} (h : wX10_byNumbers G l d I L Q) : cM G l mX10_byNumbers (d + 1) [.ref 31] I L Q := by
  rw [wX10_byNumbers] at h
  show jCall G l yX10_byNumbers cX10_byNumbers 1 (none) (d + 1) 0 0 _ (jKS, I, L, jR0) _
  refine jCall_of (n0 := 0) (ls := [some (.ref 31)]) (by decide +kernel) rfl (Nat.le_of_ble_eq_true rfl) (jQm_of ?_)
  refine jr_aload_n dX10_byNumbers_0 rfl rfl ?_
  refine jr_iconst dX10_byNumbers_1 kic_3 ?_
  refine jr_callV (mc2 := 0) (mc := 0) (ms2 := 0) (ms := 0) vm_X10_67 (av := [.int (3 : Int32)]) (st := []) rfl rfl ks_31 (by decide) rfl (Nat.le_of_ble_eq_true rfl) dX10_byNumbers_2 (cV_use (M := (yX10_byRule, cX10_byRule, 4, none)) h ?_)
  intro I1 L1 h
  exact jr_return dX10_byNumbers_5 ⟨Or.inl ⟨rfl, rfl⟩, _, _, rfl, h⟩
def wX10_byRule_30 (G : jG) (l : Launch) (d : Nat) (k7 : Int32 → Int32 → jS → jL → Prop) (Q : Option Value → jS → jL → Prop) : Nat → Int32 → Int32 → Int32 → jS → jL → Prop
  | 0, _, _, _, _, _ => False
  | n30 + 1, x1, x2, x3, I, L => if x3 ≤ 0 then (k7 x1 (x2 + (1 : Int32)) I L) else (cI G l mX10_goerAt d [.ref 31, .int (x3 - (1 : Int32))] I L (fun r1 I1 L1 => (cI G l mX10_rank d [.ref 31, .int r1, .int x1] I1 L1 (fun r2 I2 L2 => (cI G l mX10_rank d [.ref 31, .int x2, .int x1] I2 L2 (fun r3 I3 L3 => (if r2 ≤ r3 then (k7 x1 (x2 + (1 : Int32)) I3 L3) else (vp_in (x3 - (1 : Int32)) 10 ∧ (vp_in x3 10 ∧ ((wX10_byRule_30 G l d k7 Q n30) x1 x2 (x3 + (-1 : Int32)) (u2 (u2 I3 35 x3.toNatClampNeg (I3 35 ((x3 - (1 : Int32)).toNatClampNeg))) 35 ((x3 - (1 : Int32)).toNatClampNeg) x2) L3))))))))))
set_option maxRecDepth 100000 in
set_option maxHeartbeats 4000000 in
theorem wX10_byRule_30_ok {G : jG} {l : Launch} {d : Nat} {Q : Option Value → jS → jL → Prop} {k7 : Int32 → Int32 → jS → jL → Prop} (hk7 : ∀ (x1 : Int32) (x2 : Int32) (I : jS) (L : jL), k7 x1 x2 I L → J G l yX10_byRule cX10_byRule 4 (d + 1) 0 0 7 [some (.ref 31), some (.int x1), some (.int x2), none] [] (jKS, I, L, jR0) (jQm (none) Q)) : ∀ (n : Nat) (x1 : Int32) (x2 : Int32) (x3 : Int32) (I : jS) (L : jL), wX10_byRule_30 G l d k7 Q n x1 x2 x3 I L → J G l yX10_byRule cX10_byRule 4 (d + 1) 0 0 30 [some (.ref 31), some (.int x1), some (.int x2), some (.int x3)] [] (jKS, I, L, jR0) (jQm (none) Q) := by
  intro n
  induction n with
  | zero => intro x1 x2 x3 I L h; exact h.elim
  | succ n ih =>
    intro x1 x2 x3 I L h
    rw [wX10_byRule_30] at h
    refine jr_iload_n dX10_byRule_30 rfl rfl ?_
    refine jr_if_le dX10_byRule_31 (tgt := 84) (by decide) (fun c => ?_) (fun c => ?_)
    · rw [if_pos c] at h
      refine jr_iinc dX10_byRule_84 rfl (by rw [kic_1]) (by decide) rfl ?_
      refine jr_goto dX10_byRule_87 (tgt := 7) (by decide) ?_
      exact J.sub (hk7 _ _ _ _ h) (jsub_some (jsub_some (jsub_some (jsub_none jsub_nil))))
    · rw [if_neg c] at h
      refine jr_aload_n dX10_byRule_34 rfl rfl ?_
      refine jr_aload_n dX10_byRule_35 rfl rfl ?_
      refine jr_iload_n dX10_byRule_36 rfl rfl ?_
      refine jr_iconst dX10_byRule_37 kic_1 ?_
      refine jr_isub dX10_byRule_38 ?_
      refine jr_callV (mc2 := 0) (mc := 0) (ms2 := 0) (ms := 0) vm_X10_70 (av := [.int (x3 - (1 : Int32))]) (st := [.ref 31]) rfl rfl ks_31 (by decide) rfl (Nat.le_of_ble_eq_true rfl) dX10_byRule_39 (cI_use (M := (yX10_goerAt, cX10_goerAt, 2, some .int)) h ?_)
      intro r1 I1 L1 h
      refine jr_iload_n dX10_byRule_42 rfl rfl ?_
      refine jr_callV (mc2 := 0) (mc := 0) (ms2 := 0) (ms := 0) vm_X10_73 (av := [.int r1, .int x1]) (st := []) rfl rfl ks_31 (by decide) rfl (Nat.le_of_ble_eq_true rfl) dX10_byRule_43 (cI_use (M := (yX10_rank, cX10_rank, 4, some .int)) h ?_)
      intro r2 I2 L2 h
      refine jr_aload_n dX10_byRule_46 rfl rfl ?_
      refine jr_iload_n dX10_byRule_47 rfl rfl ?_
      refine jr_iload_n dX10_byRule_48 rfl rfl ?_
      refine jr_callV (mc2 := 0) (mc := 0) (ms2 := 0) (ms := 0) vm_X10_73 (av := [.int x2, .int x1]) (st := [.int r2]) rfl rfl ks_31 (by decide) rfl (Nat.le_of_ble_eq_true rfl) dX10_byRule_49 (cI_use (M := (yX10_rank, cX10_rank, 4, some .int)) h ?_)
      intro r3 I3 L3 h
      refine jr_icmp_le dX10_byRule_52 (tgt := 84) (by decide) (fun c => ?_) (fun c => ?_)
      · rw [if_pos c] at h
        refine jr_iinc dX10_byRule_84 rfl (by rw [kic_1]) (by decide) rfl ?_
        refine jr_goto dX10_byRule_87 (tgt := 7) (by decide) ?_
        exact J.sub (hk7 _ _ _ _ h) (jsub_some (jsub_some (jsub_some (jsub_none jsub_nil))))
      · rw [if_neg c] at h
        refine jr_aload_n dX10_byRule_55 rfl rfl ?_
        refine jr_geta ff_X10_26 ks_31 rr_31_3 dX10_byRule_56 ?_
        refine jr_iload_n dX10_byRule_59 rfl rfl ?_
        refine jr_aload_n dX10_byRule_60 rfl rfl ?_
        refine jr_geta ff_X10_26 ks_31 rr_31_3 dX10_byRule_61 ?_
        refine jr_iload_n dX10_byRule_64 rfl rfl ?_
        refine jr_iconst dX10_byRule_65 kic_1 ?_
        refine jr_isub dX10_byRule_66 ?_
        obtain ⟨g4, h⟩ := h
        refine jv_iaload rfl rfl ks_35 dX10_byRule_67 g4 ?_
        obtain ⟨g5, h⟩ := h
        refine jr_iastore rfl ks_35 dX10_byRule_68 g5 ?_
        refine jr_aload_n dX10_byRule_69 rfl rfl ?_
        refine jr_geta ff_X10_26 ks_31 rr_31_3 dX10_byRule_70 ?_
        refine jr_iload_n dX10_byRule_73 rfl rfl ?_
        refine jr_iconst dX10_byRule_74 kic_1 ?_
        refine jr_isub dX10_byRule_75 ?_
        refine jr_iload_n dX10_byRule_76 rfl rfl ?_
        refine jr_iastore rfl ks_35 dX10_byRule_77 g4 ?_
        refine jr_iinc dX10_byRule_78 rfl (by rw [kic_m1]) (by decide) rfl ?_
        refine jr_goto dX10_byRule_81 (tgt := 30) (by decide) ?_
        exact J.sub (ih _ _ _ _ _ h) (jsub_some (jsub_some (jsub_some (jsub_some jsub_nil))))
def wX10_byRule_7 (G : jG) (l : Launch) (d : Nat) (Q : Option Value → jS → jL → Prop) : Nat → Int32 → Int32 → jS → jL → Prop
  | 0, _, _, _, _ => False
  | n7 + 1, x1, x2, I, L => if (I 1 1) ≤ x2 then (Q none I L) else (cV G l mX10_add d [.ref 31, .int x2] I L (fun I1 L1 => (∃ e30 : Nat, wX10_byRule_30 G l d (fun z0 z1 I L => wX10_byRule_7 G l d Q n7 z0 z1 I L) Q e30 x1 x2 ((I1 31 5) - (1 : Int32)) I1 L1)))
set_option maxRecDepth 100000 in
set_option maxHeartbeats 4000000 in
theorem wX10_byRule_7_ok {G : jG} {l : Launch} {d : Nat} {Q : Option Value → jS → jL → Prop} : ∀ (n : Nat) (x1 : Int32) (x2 : Int32) (I : jS) (L : jL), wX10_byRule_7 G l d Q n x1 x2 I L → J G l yX10_byRule cX10_byRule 4 (d + 1) 0 0 7 [some (.ref 31), some (.int x1), some (.int x2), none] [] (jKS, I, L, jR0) (jQm (none) Q) := by
  intro n
  induction n with
  | zero => intro x1 x2 I L h; exact h.elim
  | succ n ih =>
    intro x1 x2 I L h
    rw [wX10_byRule_7] at h
    refine jr_iload_n dX10_byRule_7 rfl rfl ?_
    refine jr_aload_n dX10_byRule_8 rfl rfl ?_
    refine jr_geta ff_X10_9 ks_31 rr_31_0 dX10_byRule_9 ?_
    refine jv_geti rfl ff_X10_58 ks_1 dX10_byRule_12 ?_
    refine jr_icmp_ge dX10_byRule_15 (tgt := 90) (by decide) (fun c => ?_) (fun c => ?_)
    · rw [if_pos c] at h
      exact jr_return dX10_byRule_90 ⟨Or.inl ⟨rfl, rfl⟩, _, _, rfl, h⟩
    · rw [if_neg c] at h
      refine jr_aload_n dX10_byRule_18 rfl rfl ?_
      refine jr_iload_n dX10_byRule_19 rfl rfl ?_
      refine jr_callV (mc2 := 0) (mc := 0) (ms2 := 0) (ms := 0) vm_X10_63 (av := [.int x2]) (st := []) rfl rfl ks_31 (by decide) rfl (Nat.le_of_ble_eq_true rfl) dX10_byRule_20 (cV_use (M := (yX10_add, cX10_add, 2, none)) h ?_)
      intro I1 L1 h
      refine jr_aload_n dX10_byRule_23 rfl rfl ?_
      refine jv_geti rfl ff_X10_33 ks_31 dX10_byRule_24 ?_
      refine jr_iconst dX10_byRule_27 kic_1 ?_
      refine jr_isub dX10_byRule_28 ?_
      refine jr_istore_n dX10_byRule_29 rfl (by decide) rfl ?_
      obtain ⟨e30, h⟩ := h
      exact J.sub (wX10_byRule_30_ok  ih e30 _ _ _ _ _ h) (jsub_some (jsub_some (jsub_some (jsub_some jsub_nil))))
def wX10_byRule (G : jG) (l : Launch) (d : Nat) (x1 : Int32) (I : jS) (L : jL) (Q : Option Value → jS → jL → Prop) : Prop := ∃ e7 : Nat, wX10_byRule_7 G l d Q e7 x1 (0 : Int32) (u2 I 31 5 (0 : Int32)) L
set_option maxRecDepth 100000 in
set_option maxHeartbeats 4000000 in
theorem wX10_byRule_ok {G : jG} {l : Launch} {d : Nat} {Q : Option Value → jS → jL → Prop} {x1 : Int32} {I : jS} {L : jL} (h : wX10_byRule G l d x1 I L Q) : cM G l mX10_byRule (d + 1) [.ref 31, .int x1] I L Q := by
  rw [wX10_byRule] at h
  show jCall G l yX10_byRule cX10_byRule 4 (none) (d + 1) 0 0 _ (jKS, I, L, jR0) _
  refine jCall_of (n0 := 2) (ls := [some (.ref 31), some (.int x1), none, none]) (by decide +kernel) rfl (Nat.le_of_ble_eq_true rfl) (jQm_of ?_)
  refine jr_aload_n dX10_byRule_0 rfl rfl ?_
  refine jr_iconst dX10_byRule_1 kic_0 ?_
  refine jr_puti ff_X10_33 ks_31 dX10_byRule_2 ?_
  refine jr_iconst dX10_byRule_5 kic_0 ?_
  refine jr_istore_n dX10_byRule_6 rfl (by decide) rfl ?_
  obtain ⟨e7, h⟩ := h
  exact J.sub (wX10_byRule_7_ok  e7 _ _ _ _ h) (jsub_some (jsub_some (jsub_some (jsub_none jsub_nil))))
def wX10_rank (G : jG) (l : Launch) (d : Nat) (x1 : Int32) (x2 : Int32) (I : jS) (L : jL) (Q : Option Value → jS → jL → Prop) : Prop := cI G l mX7_get d [.ref 1, .int x1, .int (4 : Int32)] I L (fun r1 I1 L1 => (if x2 = (0 : Int32) then (Q (some (.int r1)) I1 L1) else (if x2 = (1 : Int32) then (Q (some (.int (-r1))) I1 L1) else (if x2 = (2 : Int32) then (cI G l mX7_get d [.ref 1, .int x1, .int (6 : Int32)] I1 L1 (fun r2 I2 L2 => (Q (some (.int (r2 - r1))) I2 L2))) else (Q (some (.int (0 : Int32))) I1 L1)))))
set_option maxRecDepth 100000 in
set_option maxHeartbeats 4000000 in
theorem wX10_rank_ok {G : jG} {l : Launch} {d : Nat} {Q : Option Value → jS → jL → Prop} {x1 : Int32} {x2 : Int32} {I : jS} {L : jL} (h : wX10_rank G l d x1 x2 I L Q) : cM G l mX10_rank (d + 1) [.ref 31, .int x1, .int x2] I L Q := by
  rw [wX10_rank] at h
  show jCall G l yX10_rank cX10_rank 4 (some .int) (d + 1) 0 0 _ (jKS, I, L, jR0) _
  refine jCall_of (n0 := 1) (ls := [some (.ref 31), some (.int x1), some (.int x2), none]) (by decide +kernel) rfl (Nat.le_of_ble_eq_true rfl) (jQm_of ?_)
  refine jr_aload_n dX10_rank_0 rfl rfl ?_
  refine jr_geta ff_X10_9 ks_31 rr_31_0 dX10_rank_1 ?_
  refine jr_iload_n dX10_rank_4 rfl rfl ?_
  refine jr_iconst dX10_rank_5 kic_4 ?_
  refine jr_callV (mc2 := 0) (mc := 0) (ms2 := 0) (ms := 0) vm_X10_76 (av := [.int x1, .int (4 : Int32)]) (st := []) rfl rfl ks_1 (by decide) rfl (Nat.le_of_ble_eq_true rfl) dX10_rank_6 (cI_use (M := (yX7_get, cX7_get, 4, some .int)) h ?_)
  intro r1 I1 L1 h
  refine jr_istore_n dX10_rank_9 rfl (by decide) rfl ?_
  refine jr_iload_n dX10_rank_10 rfl rfl ?_
  by_cases c : x2 = (0 : Int32)
  · rw [if_pos c] at h
    refine jr_tableIn dX10_rank_11 (jtl c (by decide)) (jtg c (by decide)) (off := 25) (jtb c (by decide)) (tgt := 36) (by decide) ?_
    refine jr_iload_n dX10_rank_36 rfl rfl ?_
    exact jr_ireturn dX10_rank_37 ⟨Or.inr (Or.inl ⟨rfl, _, rfl⟩), _, _, rfl, h⟩
  · rw [if_neg c] at h
    have c0 := c
    by_cases c : x2 = (1 : Int32)
    · rw [if_pos c] at h
      refine jr_tableIn dX10_rank_11 (jtl c (by decide)) (jtg c (by decide)) (off := 27) (jtb c (by decide)) (tgt := 38) (by decide) ?_
      refine jr_iload_n dX10_rank_38 rfl rfl ?_
      refine jr_ineg dX10_rank_39 ?_
      exact jr_ireturn dX10_rank_40 ⟨Or.inr (Or.inl ⟨rfl, _, rfl⟩), _, _, rfl, h⟩
    · rw [if_neg c] at h
      have c1 := c
      by_cases c : x2 = (2 : Int32)
      · rw [if_pos c] at h
        refine jr_tableIn dX10_rank_11 (jtl c (by decide)) (jtg c (by decide)) (off := 30) (jtb c (by decide)) (tgt := 41) (by decide) ?_
        refine jr_aload_n dX10_rank_41 rfl rfl ?_
        refine jr_geta ff_X10_9 ks_31 rr_31_0 dX10_rank_42 ?_
        refine jr_iload_n dX10_rank_45 rfl rfl ?_
        refine jr_bipush dX10_rank_46 kbp_6 ?_
        refine jr_callV (mc2 := 0) (mc := 0) (ms2 := 0) (ms := 0) vm_X10_76 (av := [.int x1, .int (6 : Int32)]) (st := []) rfl rfl ks_1 (by decide) rfl (Nat.le_of_ble_eq_true rfl) dX10_rank_48 (cI_use (M := (yX7_get, cX7_get, 4, some .int)) h ?_)
        intro r2 I2 L2 h
        refine jr_iload_n dX10_rank_51 rfl rfl ?_
        refine jr_isub dX10_rank_52 ?_
        exact jr_ireturn dX10_rank_53 ⟨Or.inr (Or.inl ⟨rfl, _, rfl⟩), _, _, rfl, h⟩
      · rw [if_neg c] at h
        have c2 := c
        refine jr_tableOut dX10_rank_11 (by
          rcases Int.lt_or_le (x2).toInt (0) with q | q
          · exact Or.inl q
          · rcases Int.lt_or_le (2) (x2).toInt with q2 | q2
            · exact Or.inr q2
            · exfalso
              have ec0 := lv_neT c0 (a := 0) rfl
              have ec1 := lv_neT c1 (a := 1) rfl
              have ec2 := lv_neT c2 (a := 2) rfl
              omega) (tgt := 54) (by decide) ?_
        refine jr_iconst dX10_rank_54 kic_0 ?_
        exact jr_ireturn dX10_rank_55 ⟨Or.inr (Or.inl ⟨rfl, _, rfl⟩), _, _, rfl, h⟩
def wX10_walk_13 (G : jG) (l : Launch) (d : Nat) (Q : Option Value → jS → jL → Prop) : Nat → Int32 → Int32 → jS → jL → Prop
  | 0, _, _, _, _ => False
  | n13 + 1, x1, x2, I, L => if (I 31 5) ≤ x2 then (Q none I L) else (cI G l mX10_goerAt d [.ref 31, .int x2] I L (fun r1 I1 L1 => (cI G l mX3_cross d [.ref 23, .ref 32, .int x1, .int r1, .int (0 : Int32), .int (0 : Int32)] I1 L1 (fun r2 I2 L2 => (if r2 = (-1 : Int32) then ((wX10_walk_13 G l d Q n13) x1 (x2 + (1 : Int32)) (u2 I2 31 6 ((I2 31 6) + (1 : Int32))) L2) else (if (I2 31 7) = (-2 : Int32) then ((wX10_walk_13 G l d Q n13) x1 (x2 + (1 : Int32)) (u2 I2 31 7 x2) L2) else ((wX10_walk_13 G l d Q n13) x1 (x2 + (1 : Int32)) I2 L2)))))))
set_option maxRecDepth 100000 in
set_option maxHeartbeats 4000000 in
theorem wX10_walk_13_ok {G : jG} {l : Launch} {d : Nat} {Q : Option Value → jS → jL → Prop} : ∀ (n : Nat) (x1 : Int32) (x2 : Int32) (I : jS) (L : jL), wX10_walk_13 G l d Q n x1 x2 I L → J G l yX10_walk cX10_walk 4 (d + 1) 0 0 13 [some (.ref 31), some (.int x1), some (.int x2), none] [] (jKS, I, L, jR0) (jQm (none) Q) := by
  intro n
  induction n with
  | zero => intro x1 x2 I L h; exact h.elim
  | succ n ih =>
    intro x1 x2 I L h
    rw [wX10_walk_13] at h
    refine jr_iload_n dX10_walk_13 rfl rfl ?_
    refine jr_aload_n dX10_walk_14 rfl rfl ?_
    refine jv_geti rfl ff_X10_33 ks_31 dX10_walk_15 ?_
    refine jr_icmp_ge dX10_walk_18 (tgt := 79) (by decide) (fun c => ?_) (fun c => ?_)
    · rw [if_pos c] at h
      exact jr_return dX10_walk_79 ⟨Or.inl ⟨rfl, rfl⟩, _, _, rfl, h⟩
    · rw [if_neg c] at h
      refine jr_aload_n dX10_walk_21 rfl rfl ?_
      refine jr_geta ff_X10_15 ks_31 rr_31_1 dX10_walk_22 ?_
      refine jr_aload_n dX10_walk_25 rfl rfl ?_
      refine jr_geta ff_X10_22 ks_31 rr_31_2 dX10_walk_26 ?_
      refine jr_iload_n dX10_walk_29 rfl rfl ?_
      refine jr_aload_n dX10_walk_30 rfl rfl ?_
      refine jr_iload_n dX10_walk_31 rfl rfl ?_
      refine jr_callV (mc2 := 0) (mc := 0) (ms2 := 0) (ms := 0) vm_X10_70 (av := [.int x2]) (st := [.int x1, .ref 32, .ref 23]) rfl rfl ks_31 (by decide) rfl (Nat.le_of_ble_eq_true rfl) dX10_walk_32 (cI_use (M := (yX10_goerAt, cX10_goerAt, 2, some .int)) h ?_)
      intro r1 I1 L1 h
      refine jr_iconst dX10_walk_35 kic_0 ?_
      refine jr_iconst dX10_walk_36 kic_0 ?_
      refine jr_callV (mc2 := 0) (mc := 0) (ms2 := 0) (ms := 0) vm_X10_79 (av := [.ref 32, .int x1, .int r1, .int (0 : Int32), .int (0 : Int32)]) (st := []) rfl rfl ks_23 (by decide) rfl (Nat.le_of_ble_eq_true rfl) dX10_walk_37 (cI_use (M := (yX3_cross, cX3_cross, 9, some .int)) h ?_)
      intro r2 I2 L2 h
      refine jr_istore_n dX10_walk_40 rfl (by decide) rfl ?_
      refine jr_iload_n dX10_walk_41 rfl rfl ?_
      refine jr_iconst dX10_walk_42 kic_m1 ?_
      refine jr_icmp_ne dX10_walk_43 (tgt := 59) (by decide) (fun c => ?_) (fun c => ?_)
      · rw [if_neg c] at h
        refine jr_aload_n dX10_walk_59 rfl rfl ?_
        refine jv_geti rfl ff_X10_40 ks_31 dX10_walk_60 ?_
        refine jr_bipush dX10_walk_63 kbp_m2 ?_
        refine jr_icmp_ne dX10_walk_65 (tgt := 73) (by decide) (fun c => ?_) (fun c => ?_)
        · rw [if_neg c] at h
          refine jr_iinc dX10_walk_73 rfl (by rw [kic_1]) (by decide) rfl ?_
          refine jr_goto dX10_walk_76 (tgt := 13) (by decide) ?_
          exact J.sub (ih _ _ _ _ h) (jsub_some (jsub_some (jsub_some (jsub_none jsub_nil))))
        · rw [if_pos c] at h
          refine jr_aload_n dX10_walk_68 rfl rfl ?_
          refine jr_iload_n dX10_walk_69 rfl rfl ?_
          refine jr_puti ff_X10_40 ks_31 dX10_walk_70 ?_
          refine jr_iinc dX10_walk_73 rfl (by rw [kic_1]) (by decide) rfl ?_
          refine jr_goto dX10_walk_76 (tgt := 13) (by decide) ?_
          exact J.sub (ih _ _ _ _ h) (jsub_some (jsub_some (jsub_some (jsub_none jsub_nil))))
      · rw [if_pos c] at h
        refine jr_aload_n dX10_walk_46 rfl rfl ?_
        refine jr_dup dX10_walk_47 rfl ?_
        refine jv_geti rfl ff_X10_37 ks_31 dX10_walk_48 ?_
        refine jr_iconst dX10_walk_51 kic_1 ?_
        refine jr_iadd dX10_walk_52 ?_
        refine jr_puti ff_X10_37 ks_31 dX10_walk_53 ?_
        refine jr_goto dX10_walk_56 (tgt := 73) (by decide) ?_
        refine jr_iinc dX10_walk_73 rfl (by rw [kic_1]) (by decide) rfl ?_
        refine jr_goto dX10_walk_76 (tgt := 13) (by decide) ?_
        exact J.sub (ih _ _ _ _ h) (jsub_some (jsub_some (jsub_some (jsub_none jsub_nil))))
def wX10_walk (G : jG) (l : Launch) (d : Nat) (x1 : Int32) (I : jS) (L : jL) (Q : Option Value → jS → jL → Prop) : Prop := ∃ e13 : Nat, wX10_walk_13 G l d Q e13 x1 (0 : Int32) (u2 (u2 I 31 6 (0 : Int32)) 31 7 (-2 : Int32)) L
set_option maxRecDepth 100000 in
set_option maxHeartbeats 4000000 in
theorem wX10_walk_ok {G : jG} {l : Launch} {d : Nat} {Q : Option Value → jS → jL → Prop} {x1 : Int32} {I : jS} {L : jL} (h : wX10_walk G l d x1 I L Q) : cM G l mX10_walk (d + 1) [.ref 31, .int x1] I L Q := by
  rw [wX10_walk] at h
  show jCall G l yX10_walk cX10_walk 4 (none) (d + 1) 0 0 _ (jKS, I, L, jR0) _
  refine jCall_of (n0 := 2) (ls := [some (.ref 31), some (.int x1), none, none]) (by decide +kernel) rfl (Nat.le_of_ble_eq_true rfl) (jQm_of ?_)
  refine jr_aload_n dX10_walk_0 rfl rfl ?_
  refine jr_iconst dX10_walk_1 kic_0 ?_
  refine jr_puti ff_X10_37 ks_31 dX10_walk_2 ?_
  refine jr_aload_n dX10_walk_5 rfl rfl ?_
  refine jr_bipush dX10_walk_6 kbp_m2 ?_
  refine jr_puti ff_X10_40 ks_31 dX10_walk_8 ?_
  refine jr_iconst dX10_walk_11 kic_0 ?_
  refine jr_istore_n dX10_walk_12 rfl (by decide) rfl ?_
  obtain ⟨e13, h⟩ := h
  exact J.sub (wX10_walk_13_ok  e13 _ _ _ _ h) (jsub_some (jsub_some (jsub_some (jsub_none jsub_nil))))
def wX10_walkWaiting_49 (G : jG) (l : Launch) (d : Nat) (k2 : Int32 → Int32 → jS → jL → Prop) (Q : Option Value → jS → jL → Prop) (x1 : Int32) (x2 : Int32) (t1 : Int32) (t2 : Int32) (I : jS) (L : jL) : Prop := vp_in t1 10 ∧ (vp_in x2 10 ∧ (cV G l mX3_pass d [.ref 23, .ref 32, .int ((u2 I 36 t1.toNatClampNeg t2) 36 x2.toNatClampNeg)] (u2 I 36 t1.toNatClampNeg t2) L (fun I3 L3 => (cI G l mX10_goerAt d [.ref 31, .int x2] I3 L3 (fun r4 I4 L4 => (cI G l mX3_cross d [.ref 23, .ref 32, .int x1, .int r4, .int (0 : Int32), .int (0 : Int32)] I4 L4 (fun r5 I5 L5 => (k2 x1 (x2 + (1 : Int32)) I5 L5))))))))
set_option maxRecDepth 100000 in
set_option maxHeartbeats 4000000 in
theorem wX10_walkWaiting_49_ok {G : jG} {l : Launch} {d : Nat} {Q : Option Value → jS → jL → Prop} {k2 : Int32 → Int32 → jS → jL → Prop} (hk2 : ∀ (x1 : Int32) (x2 : Int32) (I : jS) (L : jL), k2 x1 x2 I L → J G l yX10_walkWaiting cX10_walkWaiting 4 (d + 1) 0 0 2 [some (.ref 31), some (.int x1), some (.int x2), none] [] (jKS, I, L, jR0) (jQm (none) Q)) : ∀ (x1 : Int32) (x2 : Int32) (t1 : Int32) (t2 : Int32) (I : jS) (L : jL), wX10_walkWaiting_49 G l d k2 Q x1 x2 t1 t2 I L → J G l yX10_walkWaiting cX10_walkWaiting 4 (d + 1) 0 0 49 [some (.ref 31), some (.int x1), some (.int x2), none] [.int t2, .int t1, .ref 36] (jKS, I, L, jR0) (jQm (none) Q) := by
  intro x1 x2 t1 t2 I L h
  rw [wX10_walkWaiting_49] at h
  obtain ⟨g1, h⟩ := h
  refine jr_iastore rfl ks_36 dX10_walkWaiting_49 g1 ?_
  refine jr_aload_n dX10_walkWaiting_50 rfl rfl ?_
  refine jr_geta ff_X10_15 ks_31 rr_31_1 dX10_walkWaiting_51 ?_
  refine jr_aload_n dX10_walkWaiting_54 rfl rfl ?_
  refine jr_geta ff_X10_22 ks_31 rr_31_2 dX10_walkWaiting_55 ?_
  refine jr_aload_n dX10_walkWaiting_58 rfl rfl ?_
  refine jr_geta ff_X10_30 ks_31 rr_31_4 dX10_walkWaiting_59 ?_
  refine jr_iload_n dX10_walkWaiting_62 rfl rfl ?_
  obtain ⟨g2, h⟩ := h
  refine jv_iaload rfl rfl ks_36 dX10_walkWaiting_63 g2 ?_
  refine jr_callV (mc2 := 0) (mc := 0) (ms2 := 0) (ms := 0) vm_X10_89 (av := [.ref 32, .int ((u2 I 36 t1.toNatClampNeg t2) 36 x2.toNatClampNeg)]) (st := []) rfl rfl ks_23 (by decide) rfl (Nat.le_of_ble_eq_true rfl) dX10_walkWaiting_64 (cV_use (M := (yX3_pass, cX3_pass, 5, none)) h ?_)
  intro I3 L3 h
  refine jr_aload_n dX10_walkWaiting_67 rfl rfl ?_
  refine jr_geta ff_X10_15 ks_31 rr_31_1 dX10_walkWaiting_68 ?_
  refine jr_aload_n dX10_walkWaiting_71 rfl rfl ?_
  refine jr_geta ff_X10_22 ks_31 rr_31_2 dX10_walkWaiting_72 ?_
  refine jr_iload_n dX10_walkWaiting_75 rfl rfl ?_
  refine jr_aload_n dX10_walkWaiting_76 rfl rfl ?_
  refine jr_iload_n dX10_walkWaiting_77 rfl rfl ?_
  refine jr_callV (mc2 := 0) (mc := 0) (ms2 := 0) (ms := 0) vm_X10_70 (av := [.int x2]) (st := [.int x1, .ref 32, .ref 23]) rfl rfl ks_31 (by decide) rfl (Nat.le_of_ble_eq_true rfl) dX10_walkWaiting_78 (cI_use (M := (yX10_goerAt, cX10_goerAt, 2, some .int)) h ?_)
  intro r4 I4 L4 h
  refine jr_iconst dX10_walkWaiting_81 kic_0 ?_
  refine jr_iconst dX10_walkWaiting_82 kic_0 ?_
  refine jr_callV (mc2 := 0) (mc := 0) (ms2 := 0) (ms := 0) vm_X10_79 (av := [.ref 32, .int x1, .int r4, .int (0 : Int32), .int (0 : Int32)]) (st := []) rfl rfl ks_23 (by decide) rfl (Nat.le_of_ble_eq_true rfl) dX10_walkWaiting_83 (cI_use (M := (yX3_cross, cX3_cross, 9, some .int)) h ?_)
  intro r5 I5 L5 h
  refine jr_pop dX10_walkWaiting_86 rfl ?_
  refine jr_iinc dX10_walkWaiting_87 rfl (by rw [kic_1]) (by decide) rfl ?_
  refine jr_goto dX10_walkWaiting_90 (tgt := 2) (by decide) ?_
  exact J.sub (hk2 _ _ _ _ h) (jsub_some (jsub_some (jsub_some (jsub_none jsub_nil))))
def wX10_walkWaiting_2 (G : jG) (l : Launch) (d : Nat) (Q : Option Value → jS → jL → Prop) : Nat → Int32 → Int32 → jS → jL → Prop
  | 0, _, _, _, _ => False
  | n2 + 1, x1, x2, I, L => if (I 31 5) ≤ x2 then (Q none I L) else (if (10 : Int32) ≤ x2 then (Q none I L) else (cI G l mX10_goerAt d [.ref 31, .int x2] I L (fun r1 I1 L1 => (cI G l mX3_firstWait d [.ref 23, .ref 32, .int x1, .int r1] I1 L1 (fun r2 I2 L2 => (if r2 = (-1 : Int32) then (wX10_walkWaiting_49 G l d (fun z0 z1 I L => wX10_walkWaiting_2 G l d Q n2 z0 z1 I L) Q x1 x2 x2 (0 : Int32) I2 L2) else (wX10_walkWaiting_49 G l d (fun z0 z1 I L => wX10_walkWaiting_2 G l d Q n2 z0 z1 I L) Q x1 x2 x2 r2 I2 L2)))))))
set_option maxRecDepth 100000 in
set_option maxHeartbeats 4000000 in
theorem wX10_walkWaiting_2_ok {G : jG} {l : Launch} {d : Nat} {Q : Option Value → jS → jL → Prop} : ∀ (n : Nat) (x1 : Int32) (x2 : Int32) (I : jS) (L : jL), wX10_walkWaiting_2 G l d Q n x1 x2 I L → J G l yX10_walkWaiting cX10_walkWaiting 4 (d + 1) 0 0 2 [some (.ref 31), some (.int x1), some (.int x2), none] [] (jKS, I, L, jR0) (jQm (none) Q) := by
  intro n
  induction n with
  | zero => intro x1 x2 I L h; exact h.elim
  | succ n ih =>
    intro x1 x2 I L h
    rw [wX10_walkWaiting_2] at h
    refine jr_iload_n dX10_walkWaiting_2 rfl rfl ?_
    refine jr_aload_n dX10_walkWaiting_3 rfl rfl ?_
    refine jv_geti rfl ff_X10_33 ks_31 dX10_walkWaiting_4 ?_
    refine jr_icmp_ge dX10_walkWaiting_7 (tgt := 93) (by decide) (fun c => ?_) (fun c => ?_)
    · rw [if_pos c] at h
      exact jr_return dX10_walkWaiting_93 ⟨Or.inl ⟨rfl, rfl⟩, _, _, rfl, h⟩
    · rw [if_neg c] at h
      refine jr_iload_n dX10_walkWaiting_10 rfl rfl ?_
      refine jr_bipush dX10_walkWaiting_11 kbp_10 ?_
      refine jr_icmp_ge dX10_walkWaiting_13 (tgt := 93) (by decide) (fun c => ?_) (fun c => ?_)
      · rw [if_pos c] at h
        exact jr_return dX10_walkWaiting_93 ⟨Or.inl ⟨rfl, rfl⟩, _, _, rfl, h⟩
      · rw [if_neg c] at h
        refine jr_aload_n dX10_walkWaiting_16 rfl rfl ?_
        refine jr_geta ff_X10_15 ks_31 rr_31_1 dX10_walkWaiting_17 ?_
        refine jr_aload_n dX10_walkWaiting_20 rfl rfl ?_
        refine jr_geta ff_X10_22 ks_31 rr_31_2 dX10_walkWaiting_21 ?_
        refine jr_iload_n dX10_walkWaiting_24 rfl rfl ?_
        refine jr_aload_n dX10_walkWaiting_25 rfl rfl ?_
        refine jr_iload_n dX10_walkWaiting_26 rfl rfl ?_
        refine jr_callV (mc2 := 0) (mc := 0) (ms2 := 0) (ms := 0) vm_X10_70 (av := [.int x2]) (st := [.int x1, .ref 32, .ref 23]) rfl rfl ks_31 (by decide) rfl (Nat.le_of_ble_eq_true rfl) dX10_walkWaiting_27 (cI_use (M := (yX10_goerAt, cX10_goerAt, 2, some .int)) h ?_)
        intro r1 I1 L1 h
        refine jr_callV (mc2 := 0) (mc := 0) (ms2 := 0) (ms := 0) vm_X10_85 (av := [.ref 32, .int x1, .int r1]) (st := []) rfl rfl ks_23 (by decide) rfl (Nat.le_of_ble_eq_true rfl) dX10_walkWaiting_30 (cI_use (M := (yX3_firstWait, cX3_firstWait, 5, some .int)) h ?_)
        intro r2 I2 L2 h
        refine jr_istore_n dX10_walkWaiting_33 rfl (by decide) rfl ?_
        refine jr_aload_n dX10_walkWaiting_34 rfl rfl ?_
        refine jr_geta ff_X10_30 ks_31 rr_31_4 dX10_walkWaiting_35 ?_
        refine jr_iload_n dX10_walkWaiting_38 rfl rfl ?_
        refine jr_iload_n dX10_walkWaiting_39 rfl rfl ?_
        refine jr_iconst dX10_walkWaiting_40 kic_m1 ?_
        refine jr_icmp_ne dX10_walkWaiting_41 (tgt := 48) (by decide) (fun c => ?_) (fun c => ?_)
        · rw [if_neg c] at h
          refine jr_iload_n dX10_walkWaiting_48 rfl rfl ?_
          exact J.sub (wX10_walkWaiting_49_ok  ih _ _ _ _ _ _ h) (jsub_some (jsub_some (jsub_some (jsub_none jsub_nil))))
        · rw [if_pos c] at h
          refine jr_iconst dX10_walkWaiting_44 kic_0 ?_
          refine jr_goto dX10_walkWaiting_45 (tgt := 49) (by decide) ?_
          exact J.sub (wX10_walkWaiting_49_ok  ih _ _ _ _ _ _ h) (jsub_some (jsub_some (jsub_some (jsub_none jsub_nil))))
def wX10_walkWaiting (G : jG) (l : Launch) (d : Nat) (x1 : Int32) (I : jS) (L : jL) (Q : Option Value → jS → jL → Prop) : Prop := ∃ e2 : Nat, wX10_walkWaiting_2 G l d Q e2 x1 (0 : Int32) I L
set_option maxRecDepth 100000 in
set_option maxHeartbeats 4000000 in
theorem wX10_walkWaiting_ok {G : jG} {l : Launch} {d : Nat} {Q : Option Value → jS → jL → Prop} {x1 : Int32} {I : jS} {L : jL} (h : wX10_walkWaiting G l d x1 I L Q) : cM G l mX10_walkWaiting (d + 1) [.ref 31, .int x1] I L Q := by
  rw [wX10_walkWaiting] at h
  show jCall G l yX10_walkWaiting cX10_walkWaiting 4 (none) (d + 1) 0 0 _ (jKS, I, L, jR0) _
  refine jCall_of (n0 := 2) (ls := [some (.ref 31), some (.int x1), none, none]) (by decide +kernel) rfl (Nat.le_of_ble_eq_true rfl) (jQm_of ?_)
  refine jr_iconst dX10_walkWaiting_0 kic_0 ?_
  refine jr_istore_n dX10_walkWaiting_1 rfl (by decide) rfl ?_
  obtain ⟨e2, h⟩ := h
  exact J.sub (wX10_walkWaiting_2_ok  e2 _ _ _ _ h) (jsub_some (jsub_some (jsub_some (jsub_none jsub_nil))))
def wX10_waitOf (G : jG) (l : Launch) (d : Nat) (x1 : Int32) (I : jS) (L : jL) (Q : Option Value → jS → jL → Prop) : Prop := if x1 < 0 then (Q (some (.int (-2 : Int32))) I L) else (if (I 31 5) ≤ x1 then (Q (some (.int (-2 : Int32))) I L) else (if (10 : Int32) ≤ x1 then (Q (some (.int (-2 : Int32))) I L) else (vp_in x1 10 ∧ (Q (some (.int (I 36 x1.toNatClampNeg))) I L))))
set_option maxRecDepth 100000 in
set_option maxHeartbeats 4000000 in
theorem wX10_waitOf_ok {G : jG} {l : Launch} {d : Nat} {Q : Option Value → jS → jL → Prop} {x1 : Int32} {I : jS} {L : jL} (h : wX10_waitOf G l d x1 I L Q) : cM G l mX10_waitOf (d + 1) [.ref 31, .int x1] I L Q := by
  rw [wX10_waitOf] at h
  show jCall G l yX10_waitOf cX10_waitOf 2 (some .int) (d + 1) 0 0 _ (jKS, I, L, jR0) _
  refine jCall_of (n0 := 0) (ls := [some (.ref 31), some (.int x1)]) (by decide +kernel) rfl (Nat.le_of_ble_eq_true rfl) (jQm_of ?_)
  refine jr_iload_n dX10_waitOf_0 rfl rfl ?_
  refine jr_if_lt dX10_waitOf_1 (tgt := 27) (by decide) (fun c => ?_) (fun c => ?_)
  · rw [if_pos c] at h
    refine jr_bipush dX10_waitOf_27 kbp_m2 ?_
    exact jr_ireturn dX10_waitOf_29 ⟨Or.inr (Or.inl ⟨rfl, _, rfl⟩), _, _, rfl, h⟩
  · rw [if_neg c] at h
    refine jr_iload_n dX10_waitOf_4 rfl rfl ?_
    refine jr_aload_n dX10_waitOf_5 rfl rfl ?_
    refine jv_geti rfl ff_X10_33 ks_31 dX10_waitOf_6 ?_
    refine jr_icmp_ge dX10_waitOf_9 (tgt := 27) (by decide) (fun c => ?_) (fun c => ?_)
    · rw [if_pos c] at h
      refine jr_bipush dX10_waitOf_27 kbp_m2 ?_
      exact jr_ireturn dX10_waitOf_29 ⟨Or.inr (Or.inl ⟨rfl, _, rfl⟩), _, _, rfl, h⟩
    · rw [if_neg c] at h
      refine jr_iload_n dX10_waitOf_12 rfl rfl ?_
      refine jr_bipush dX10_waitOf_13 kbp_10 ?_
      refine jr_icmp_ge dX10_waitOf_15 (tgt := 27) (by decide) (fun c => ?_) (fun c => ?_)
      · rw [if_pos c] at h
        refine jr_bipush dX10_waitOf_27 kbp_m2 ?_
        exact jr_ireturn dX10_waitOf_29 ⟨Or.inr (Or.inl ⟨rfl, _, rfl⟩), _, _, rfl, h⟩
      · rw [if_neg c] at h
        refine jr_aload_n dX10_waitOf_18 rfl rfl ?_
        refine jr_geta ff_X10_30 ks_31 rr_31_4 dX10_waitOf_19 ?_
        refine jr_iload_n dX10_waitOf_22 rfl rfl ?_
        obtain ⟨g1, h⟩ := h
        refine jv_iaload rfl rfl ks_36 dX10_waitOf_23 g1 ?_
        refine jr_goto dX10_waitOf_24 (tgt := 29) (by decide) ?_
        exact jr_ireturn dX10_waitOf_29 ⟨Or.inr (Or.inl ⟨rfl, _, rfl⟩), _, _, rfl, h⟩
def wX10_allWaits_4 (G : jG) (l : Launch) (d : Nat) (Q : Option Value → jS → jL → Prop) : Nat → Int32 → Int32 → jS → jL → Prop
  | 0, _, _, _, _ => False
  | n4 + 1, x1, x2, I, L => if (I 31 5) ≤ x2 then (Q (some (.int x1)) I L) else (cI G l mX10_waitOf d [.ref 31, .int x2] I L (fun r1 I1 L1 => ((wX10_allWaits_4 G l d Q n4) (x1 + r1) (x2 + (1 : Int32)) I1 L1)))
set_option maxRecDepth 100000 in
set_option maxHeartbeats 4000000 in
theorem wX10_allWaits_4_ok {G : jG} {l : Launch} {d : Nat} {Q : Option Value → jS → jL → Prop} : ∀ (n : Nat) (x1 : Int32) (x2 : Int32) (I : jS) (L : jL), wX10_allWaits_4 G l d Q n x1 x2 I L → J G l yX10_allWaits cX10_allWaits 3 (d + 1) 0 0 4 [some (.ref 31), some (.int x1), some (.int x2)] [] (jKS, I, L, jR0) (jQm (some .int) Q) := by
  intro n
  induction n with
  | zero => intro x1 x2 I L h; exact h.elim
  | succ n ih =>
    intro x1 x2 I L h
    rw [wX10_allWaits_4] at h
    refine jr_iload_n dX10_allWaits_4 rfl rfl ?_
    refine jr_aload_n dX10_allWaits_5 rfl rfl ?_
    refine jv_geti rfl ff_X10_33 ks_31 dX10_allWaits_6 ?_
    refine jr_icmp_ge dX10_allWaits_9 (tgt := 26) (by decide) (fun c => ?_) (fun c => ?_)
    · rw [if_pos c] at h
      refine jr_iload_n dX10_allWaits_26 rfl rfl ?_
      exact jr_ireturn dX10_allWaits_27 ⟨Or.inr (Or.inl ⟨rfl, _, rfl⟩), _, _, rfl, h⟩
    · rw [if_neg c] at h
      refine jr_iload_n dX10_allWaits_12 rfl rfl ?_
      refine jr_aload_n dX10_allWaits_13 rfl rfl ?_
      refine jr_iload_n dX10_allWaits_14 rfl rfl ?_
      refine jr_callV (mc2 := 0) (mc := 0) (ms2 := 0) (ms := 0) vm_X10_93 (av := [.int x2]) (st := [.int x1]) rfl rfl ks_31 (by decide) rfl (Nat.le_of_ble_eq_true rfl) dX10_allWaits_15 (cI_use (M := (yX10_waitOf, cX10_waitOf, 2, some .int)) h ?_)
      intro r1 I1 L1 h
      refine jr_iadd dX10_allWaits_18 ?_
      refine jr_istore_n dX10_allWaits_19 rfl (by decide) rfl ?_
      refine jr_iinc dX10_allWaits_20 rfl (by rw [kic_1]) (by decide) rfl ?_
      refine jr_goto dX10_allWaits_23 (tgt := 4) (by decide) ?_
      exact J.sub (ih _ _ _ _ h) (jsub_some (jsub_some (jsub_some jsub_nil)))
def wX10_allWaits (G : jG) (l : Launch) (d : Nat) (I : jS) (L : jL) (Q : Option Value → jS → jL → Prop) : Prop := ∃ e4 : Nat, wX10_allWaits_4 G l d Q e4 (0 : Int32) (0 : Int32) I L
set_option maxRecDepth 100000 in
set_option maxHeartbeats 4000000 in
theorem wX10_allWaits_ok {G : jG} {l : Launch} {d : Nat} {Q : Option Value → jS → jL → Prop} {I : jS} {L : jL} (h : wX10_allWaits G l d I L Q) : cM G l mX10_allWaits (d + 1) [.ref 31] I L Q := by
  rw [wX10_allWaits] at h
  show jCall G l yX10_allWaits cX10_allWaits 3 (some .int) (d + 1) 0 0 _ (jKS, I, L, jR0) _
  refine jCall_of (n0 := 2) (ls := [some (.ref 31), none, none]) (by decide +kernel) rfl (Nat.le_of_ble_eq_true rfl) (jQm_of ?_)
  refine jr_iconst dX10_allWaits_0 kic_0 ?_
  refine jr_istore_n dX10_allWaits_1 rfl (by decide) rfl ?_
  refine jr_iconst dX10_allWaits_2 kic_0 ?_
  refine jr_istore_n dX10_allWaits_3 rfl (by decide) rfl ?_
  obtain ⟨e4, h⟩ := h
  exact J.sub (wX10_allWaits_4_ok  e4 _ _ _ _ h) (jsub_some (jsub_some (jsub_some jsub_nil)))
def wX10_carry_83 (G : jG) (l : Launch) (d : Nat) (k9 : Int32 → Int32 → Int32 → Int32 → Int32 → Int32 → Int32 → jS → jL → Prop) (Q : Option Value → jS → jL → Prop) (x1 : Int32) (x2 : Int32) (x3 : Int32) (x4 : Int32) (x5 : Int32) (x6 : Int32) (x7 : Int32) (I : jS) (L : jL) : Prop := if x6 = 0 then (k9 x1 x2 x3 x4 x5 x6 (x7 + (1 : Int32)) I L) else (k9 x1 x2 x3 x4 (x5 + (1 : Int32)) x6 (x7 + (1 : Int32)) I L)
set_option maxRecDepth 100000 in
set_option maxHeartbeats 4000000 in
theorem wX10_carry_83_ok {G : jG} {l : Launch} {d : Nat} {Q : Option Value → jS → jL → Prop} {k9 : Int32 → Int32 → Int32 → Int32 → Int32 → Int32 → Int32 → jS → jL → Prop} (hk9 : ∀ (x1 : Int32) (x2 : Int32) (x3 : Int32) (x4 : Int32) (x5 : Int32) (x6 : Int32) (x7 : Int32) (I : jS) (L : jL), k9 x1 x2 x3 x4 x5 x6 x7 I L → J G l yX10_carry cX10_carry 8 (d + 1) 0 0 9 [some (.ref 31), some (.int x1), some (.int x2), some (.int x3), some (.int x4), some (.int x5), some (.int x6), some (.int x7)] [] (jKS, I, L, jR0) (jQm (some .int) Q)) : ∀ (x1 : Int32) (x2 : Int32) (x3 : Int32) (x4 : Int32) (x5 : Int32) (x6 : Int32) (x7 : Int32) (I : jS) (L : jL), wX10_carry_83 G l d k9 Q x1 x2 x3 x4 x5 x6 x7 I L → J G l yX10_carry cX10_carry 8 (d + 1) 0 0 83 [some (.ref 31), some (.int x1), some (.int x2), some (.int x3), some (.int x4), some (.int x5), some (.int x6), some (.int x7)] [] (jKS, I, L, jR0) (jQm (some .int) Q) := by
  intro x1 x2 x3 x4 x5 x6 x7 I L h
  rw [wX10_carry_83] at h
  refine jr_iload dX10_carry_83 rfl ?_
  refine jr_if_eq dX10_carry_85 (tgt := 91) (by decide) (fun c => ?_) (fun c => ?_)
  · rw [if_pos c] at h
    refine jr_iinc dX10_carry_91 rfl (by rw [kic_1]) (by decide) rfl ?_
    refine jr_goto dX10_carry_94 (tgt := 9) (by decide) ?_
    exact J.sub (hk9 _ _ _ _ _ _ _ _ _ h) (jsub_some (jsub_some (jsub_some (jsub_some (jsub_some (jsub_some (jsub_some (jsub_some jsub_nil))))))))
  · rw [if_neg c] at h
    refine jr_iinc dX10_carry_88 rfl (by rw [kic_1]) (by decide) rfl ?_
    refine jr_iinc dX10_carry_91 rfl (by rw [kic_1]) (by decide) rfl ?_
    refine jr_goto dX10_carry_94 (tgt := 9) (by decide) ?_
    exact J.sub (hk9 _ _ _ _ _ _ _ _ _ h) (jsub_some (jsub_some (jsub_some (jsub_some (jsub_some (jsub_some (jsub_some (jsub_some jsub_nil))))))))
def wX10_carry_81 (G : jG) (l : Launch) (d : Nat) (k9 : Int32 → Int32 → Int32 → Int32 → Int32 → Int32 → Int32 → jS → jL → Prop) (Q : Option Value → jS → jL → Prop) (x1 : Int32) (x2 : Int32) (x3 : Int32) (x4 : Int32) (x5 : Int32) (x7 : Int32) (t0 : Int32) (I : jS) (L : jL) : Prop := wX10_carry_83 G l d k9 Q x1 x2 x3 x4 x5 t0 x7 I L
set_option maxRecDepth 100000 in
set_option maxHeartbeats 4000000 in
theorem wX10_carry_81_ok {G : jG} {l : Launch} {d : Nat} {Q : Option Value → jS → jL → Prop} {k9 : Int32 → Int32 → Int32 → Int32 → Int32 → Int32 → Int32 → jS → jL → Prop} (hk9 : ∀ (x1 : Int32) (x2 : Int32) (x3 : Int32) (x4 : Int32) (x5 : Int32) (x6 : Int32) (x7 : Int32) (I : jS) (L : jL), k9 x1 x2 x3 x4 x5 x6 x7 I L → J G l yX10_carry cX10_carry 8 (d + 1) 0 0 9 [some (.ref 31), some (.int x1), some (.int x2), some (.int x3), some (.int x4), some (.int x5), some (.int x6), some (.int x7)] [] (jKS, I, L, jR0) (jQm (some .int) Q)) : ∀ (x1 : Int32) (x2 : Int32) (x3 : Int32) (x4 : Int32) (x5 : Int32) (x7 : Int32) (t0 : Int32) (I : jS) (L : jL), wX10_carry_81 G l d k9 Q x1 x2 x3 x4 x5 x7 t0 I L → J G l yX10_carry cX10_carry 8 (d + 1) 0 0 81 [some (.ref 31), some (.int x1), some (.int x2), some (.int x3), some (.int x4), some (.int x5), none, some (.int x7)] [.int t0] (jKS, I, L, jR0) (jQm (some .int) Q) := by
  intro x1 x2 x3 x4 x5 x7 t0 I L h
  rw [wX10_carry_81] at h
  refine jr_istore dX10_carry_81 (by decide) rfl ?_
  exact J.sub (wX10_carry_83_ok  hk9 _ _ _ _ _ _ _ _ _ h) (jsub_some (jsub_some (jsub_some (jsub_some (jsub_some (jsub_some (jsub_some (jsub_some jsub_nil))))))))
def wX10_carry_52 (G : jG) (l : Launch) (d : Nat) (k9 : Int32 → Int32 → Int32 → Int32 → Int32 → Int32 → Int32 → jS → jL → Prop) (Q : Option Value → jS → jL → Prop) (x1 : Int32) (x2 : Int32) (x3 : Int32) (x4 : Int32) (x5 : Int32) (x6 : Int32) (x7 : Int32) (I : jS) (L : jL) : Prop := if x6 = 0 then (wX10_carry_83 G l d k9 Q x1 x2 x3 x4 x5 x6 x7 I L) else (cI G l mX3_cross d [.ref 23, .ref 32, .int x2, .int x1, .int x3, .int (0 : Int32)] I L (fun r1 I1 L1 => (if r1 = (-1 : Int32) then (wX10_carry_81 G l d k9 Q x1 x2 x3 x4 x5 x7 (1 : Int32) I1 L1) else (wX10_carry_81 G l d k9 Q x1 x2 x3 x4 x5 x7 (0 : Int32) I1 L1))))
set_option maxRecDepth 100000 in
set_option maxHeartbeats 4000000 in
theorem wX10_carry_52_ok {G : jG} {l : Launch} {d : Nat} {Q : Option Value → jS → jL → Prop} {k9 : Int32 → Int32 → Int32 → Int32 → Int32 → Int32 → Int32 → jS → jL → Prop} (hk9 : ∀ (x1 : Int32) (x2 : Int32) (x3 : Int32) (x4 : Int32) (x5 : Int32) (x6 : Int32) (x7 : Int32) (I : jS) (L : jL), k9 x1 x2 x3 x4 x5 x6 x7 I L → J G l yX10_carry cX10_carry 8 (d + 1) 0 0 9 [some (.ref 31), some (.int x1), some (.int x2), some (.int x3), some (.int x4), some (.int x5), some (.int x6), some (.int x7)] [] (jKS, I, L, jR0) (jQm (some .int) Q)) : ∀ (x1 : Int32) (x2 : Int32) (x3 : Int32) (x4 : Int32) (x5 : Int32) (x6 : Int32) (x7 : Int32) (I : jS) (L : jL), wX10_carry_52 G l d k9 Q x1 x2 x3 x4 x5 x6 x7 I L → J G l yX10_carry cX10_carry 8 (d + 1) 0 0 52 [some (.ref 31), some (.int x1), some (.int x2), some (.int x3), some (.int x4), some (.int x5), some (.int x6), some (.int x7)] [] (jKS, I, L, jR0) (jQm (some .int) Q) := by
  intro x1 x2 x3 x4 x5 x6 x7 I L h
  rw [wX10_carry_52] at h
  refine jr_iload dX10_carry_52 rfl ?_
  refine jr_if_eq dX10_carry_54 (tgt := 83) (by decide) (fun c => ?_) (fun c => ?_)
  · rw [if_pos c] at h
    exact J.sub (wX10_carry_83_ok  hk9 _ _ _ _ _ _ _ _ _ h) (jsub_some (jsub_some (jsub_some (jsub_some (jsub_some (jsub_some (jsub_some (jsub_some jsub_nil))))))))
  · rw [if_neg c] at h
    refine jr_aload_n dX10_carry_57 rfl rfl ?_
    refine jr_geta ff_X10_15 ks_31 rr_31_1 dX10_carry_58 ?_
    refine jr_aload_n dX10_carry_61 rfl rfl ?_
    refine jr_geta ff_X10_22 ks_31 rr_31_2 dX10_carry_62 ?_
    refine jr_iload_n dX10_carry_65 rfl rfl ?_
    refine jr_iload_n dX10_carry_66 rfl rfl ?_
    refine jr_iload_n dX10_carry_67 rfl rfl ?_
    refine jr_iconst dX10_carry_68 kic_0 ?_
    refine jr_callV (mc2 := 0) (mc := 0) (ms2 := 0) (ms := 0) vm_X10_79 (av := [.ref 32, .int x2, .int x1, .int x3, .int (0 : Int32)]) (st := []) rfl rfl ks_23 (by decide) rfl (Nat.le_of_ble_eq_true rfl) dX10_carry_69 (cI_use (M := (yX3_cross, cX3_cross, 9, some .int)) h ?_)
    intro r1 I1 L1 h
    refine jr_iconst dX10_carry_72 kic_m1 ?_
    refine jr_icmp_ne dX10_carry_73 (tgt := 80) (by decide) (fun c => ?_) (fun c => ?_)
    · rw [if_neg c] at h
      refine jr_iconst dX10_carry_80 kic_0 ?_
      exact J.sub (wX10_carry_81_ok  hk9 _ _ _ _ _ _ _ _ _ h) (jsub_some (jsub_some (jsub_some (jsub_some (jsub_some (jsub_some (jsub_none (jsub_some jsub_nil))))))))
    · rw [if_pos c] at h
      refine jr_iconst dX10_carry_76 kic_1 ?_
      refine jr_goto dX10_carry_77 (tgt := 81) (by decide) ?_
      exact J.sub (wX10_carry_81_ok  hk9 _ _ _ _ _ _ _ _ _ h) (jsub_some (jsub_some (jsub_some (jsub_some (jsub_some (jsub_some (jsub_none (jsub_some jsub_nil))))))))
def wX10_carry_50 (G : jG) (l : Launch) (d : Nat) (k9 : Int32 → Int32 → Int32 → Int32 → Int32 → Int32 → Int32 → jS → jL → Prop) (Q : Option Value → jS → jL → Prop) (x1 : Int32) (x2 : Int32) (x3 : Int32) (x4 : Int32) (x5 : Int32) (x7 : Int32) (t0 : Int32) (I : jS) (L : jL) : Prop := wX10_carry_52 G l d k9 Q x1 x2 x3 x4 x5 t0 x7 I L
set_option maxRecDepth 100000 in
set_option maxHeartbeats 4000000 in
theorem wX10_carry_50_ok {G : jG} {l : Launch} {d : Nat} {Q : Option Value → jS → jL → Prop} {k9 : Int32 → Int32 → Int32 → Int32 → Int32 → Int32 → Int32 → jS → jL → Prop} (hk9 : ∀ (x1 : Int32) (x2 : Int32) (x3 : Int32) (x4 : Int32) (x5 : Int32) (x6 : Int32) (x7 : Int32) (I : jS) (L : jL), k9 x1 x2 x3 x4 x5 x6 x7 I L → J G l yX10_carry cX10_carry 8 (d + 1) 0 0 9 [some (.ref 31), some (.int x1), some (.int x2), some (.int x3), some (.int x4), some (.int x5), some (.int x6), some (.int x7)] [] (jKS, I, L, jR0) (jQm (some .int) Q)) : ∀ (x1 : Int32) (x2 : Int32) (x3 : Int32) (x4 : Int32) (x5 : Int32) (x7 : Int32) (t0 : Int32) (I : jS) (L : jL), wX10_carry_50 G l d k9 Q x1 x2 x3 x4 x5 x7 t0 I L → J G l yX10_carry cX10_carry 8 (d + 1) 0 0 50 [some (.ref 31), some (.int x1), some (.int x2), some (.int x3), some (.int x4), some (.int x5), none, some (.int x7)] [.int t0] (jKS, I, L, jR0) (jQm (some .int) Q) := by
  intro x1 x2 x3 x4 x5 x7 t0 I L h
  rw [wX10_carry_50] at h
  refine jr_istore dX10_carry_50 (by decide) rfl ?_
  exact J.sub (wX10_carry_52_ok  hk9 _ _ _ _ _ _ _ _ _ h) (jsub_some (jsub_some (jsub_some (jsub_some (jsub_some (jsub_some (jsub_some (jsub_some jsub_nil))))))))
def wX10_carry_9 (G : jG) (l : Launch) (d : Nat) (Q : Option Value → jS → jL → Prop) : Nat → Int32 → Int32 → Int32 → Int32 → Int32 → Int32 → Int32 → jS → jL → Prop
  | 0, _, _, _, _, _, _, _, _, _ => False
  | n9 + 1, x1, x2, x3, x4, x5, x6, x7, I, L => if x4 ≤ x7 then (Q (some (.int x5)) I L) else (if x6 = 0 then (Q (some (.int x5)) I L) else (if x7 ≤ 0 then (wX10_carry_52 G l d (fun z0 z1 z2 z3 z4 z5 z6 I L => wX10_carry_9 G l d Q n9 z0 z1 z2 z3 z4 z5 z6 I L) Q x1 x2 x3 x4 x5 x6 x7 I L) else (cI G l mX3_cross d [.ref 23, .ref 32, .int x2, .int x1, .int (0 : Int32), .int (1 : Int32)] I L (fun r1 I1 L1 => (if r1 = (-1 : Int32) then (wX10_carry_50 G l d (fun z0 z1 z2 z3 z4 z5 z6 I L => wX10_carry_9 G l d Q n9 z0 z1 z2 z3 z4 z5 z6 I L) Q x1 x2 x3 x4 x5 x7 (1 : Int32) I1 L1) else (wX10_carry_50 G l d (fun z0 z1 z2 z3 z4 z5 z6 I L => wX10_carry_9 G l d Q n9 z0 z1 z2 z3 z4 z5 z6 I L) Q x1 x2 x3 x4 x5 x7 (0 : Int32) I1 L1))))))
set_option maxRecDepth 100000 in
set_option maxHeartbeats 4000000 in
theorem wX10_carry_9_ok {G : jG} {l : Launch} {d : Nat} {Q : Option Value → jS → jL → Prop} : ∀ (n : Nat) (x1 : Int32) (x2 : Int32) (x3 : Int32) (x4 : Int32) (x5 : Int32) (x6 : Int32) (x7 : Int32) (I : jS) (L : jL), wX10_carry_9 G l d Q n x1 x2 x3 x4 x5 x6 x7 I L → J G l yX10_carry cX10_carry 8 (d + 1) 0 0 9 [some (.ref 31), some (.int x1), some (.int x2), some (.int x3), some (.int x4), some (.int x5), some (.int x6), some (.int x7)] [] (jKS, I, L, jR0) (jQm (some .int) Q) := by
  intro n
  induction n with
  | zero => intro x1 x2 x3 x4 x5 x6 x7 I L h; exact h.elim
  | succ n ih =>
    intro x1 x2 x3 x4 x5 x6 x7 I L h
    rw [wX10_carry_9] at h
    refine jr_iload dX10_carry_9 rfl ?_
    refine jr_iload dX10_carry_11 rfl ?_
    refine jr_icmp_ge dX10_carry_13 (tgt := 97) (by decide) (fun c => ?_) (fun c => ?_)
    · rw [if_pos c] at h
      refine jr_iload dX10_carry_97 rfl ?_
      exact jr_ireturn dX10_carry_99 ⟨Or.inr (Or.inl ⟨rfl, _, rfl⟩), _, _, rfl, h⟩
    · rw [if_neg c] at h
      refine jr_iload dX10_carry_16 rfl ?_
      refine jr_if_eq dX10_carry_18 (tgt := 97) (by decide) (fun c => ?_) (fun c => ?_)
      · rw [if_pos c] at h
        refine jr_iload dX10_carry_97 rfl ?_
        exact jr_ireturn dX10_carry_99 ⟨Or.inr (Or.inl ⟨rfl, _, rfl⟩), _, _, rfl, h⟩
      · rw [if_neg c] at h
        refine jr_iload dX10_carry_21 rfl ?_
        refine jr_if_le dX10_carry_23 (tgt := 52) (by decide) (fun c => ?_) (fun c => ?_)
        · rw [if_pos c] at h
          exact J.sub (wX10_carry_52_ok  ih _ _ _ _ _ _ _ _ _ h) (jsub_some (jsub_some (jsub_some (jsub_some (jsub_some (jsub_some (jsub_some (jsub_some jsub_nil))))))))
        · rw [if_neg c] at h
          refine jr_aload_n dX10_carry_26 rfl rfl ?_
          refine jr_geta ff_X10_15 ks_31 rr_31_1 dX10_carry_27 ?_
          refine jr_aload_n dX10_carry_30 rfl rfl ?_
          refine jr_geta ff_X10_22 ks_31 rr_31_2 dX10_carry_31 ?_
          refine jr_iload_n dX10_carry_34 rfl rfl ?_
          refine jr_iload_n dX10_carry_35 rfl rfl ?_
          refine jr_iconst dX10_carry_36 kic_0 ?_
          refine jr_iconst dX10_carry_37 kic_1 ?_
          refine jr_callV (mc2 := 0) (mc := 0) (ms2 := 0) (ms := 0) vm_X10_79 (av := [.ref 32, .int x2, .int x1, .int (0 : Int32), .int (1 : Int32)]) (st := []) rfl rfl ks_23 (by decide) rfl (Nat.le_of_ble_eq_true rfl) dX10_carry_38 (cI_use (M := (yX3_cross, cX3_cross, 9, some .int)) h ?_)
          intro r1 I1 L1 h
          refine jr_iconst dX10_carry_41 kic_m1 ?_
          refine jr_icmp_ne dX10_carry_42 (tgt := 49) (by decide) (fun c => ?_) (fun c => ?_)
          · rw [if_neg c] at h
            refine jr_iconst dX10_carry_49 kic_0 ?_
            exact J.sub (wX10_carry_50_ok  ih _ _ _ _ _ _ _ _ _ h) (jsub_some (jsub_some (jsub_some (jsub_some (jsub_some (jsub_some (jsub_none (jsub_some jsub_nil))))))))
          · rw [if_pos c] at h
            refine jr_iconst dX10_carry_45 kic_1 ?_
            refine jr_goto dX10_carry_46 (tgt := 50) (by decide) ?_
            exact J.sub (wX10_carry_50_ok  ih _ _ _ _ _ _ _ _ _ h) (jsub_some (jsub_some (jsub_some (jsub_some (jsub_some (jsub_some (jsub_none (jsub_some jsub_nil))))))))
def wX10_carry (G : jG) (l : Launch) (d : Nat) (x1 : Int32) (x2 : Int32) (x3 : Int32) (x4 : Int32) (I : jS) (L : jL) (Q : Option Value → jS → jL → Prop) : Prop := ∃ e9 : Nat, wX10_carry_9 G l d Q e9 x1 x2 x3 x4 (0 : Int32) (1 : Int32) (0 : Int32) I L
set_option maxRecDepth 100000 in
set_option maxHeartbeats 4000000 in
theorem wX10_carry_ok {G : jG} {l : Launch} {d : Nat} {Q : Option Value → jS → jL → Prop} {x1 : Int32} {x2 : Int32} {x3 : Int32} {x4 : Int32} {I : jS} {L : jL} (h : wX10_carry G l d x1 x2 x3 x4 I L Q) : cM G l mX10_carry (d + 1) [.ref 31, .int x1, .int x2, .int x3, .int x4] I L Q := by
  rw [wX10_carry] at h
  show jCall G l yX10_carry cX10_carry 8 (some .int) (d + 1) 0 0 _ (jKS, I, L, jR0) _
  refine jCall_of (n0 := 3) (ls := [some (.ref 31), some (.int x1), some (.int x2), some (.int x3), some (.int x4), none, none, none]) (by decide +kernel) rfl (Nat.le_of_ble_eq_true rfl) (jQm_of ?_)
  refine jr_iconst dX10_carry_0 kic_0 ?_
  refine jr_istore dX10_carry_1 (by decide) rfl ?_
  refine jr_iconst dX10_carry_3 kic_1 ?_
  refine jr_istore dX10_carry_4 (by decide) rfl ?_
  refine jr_iconst dX10_carry_6 kic_0 ?_
  refine jr_istore dX10_carry_7 (by decide) rfl ?_
  obtain ⟨e9, h⟩ := h
  exact J.sub (wX10_carry_9_ok  e9 _ _ _ _ _ _ _ _ _ h) (jsub_some (jsub_some (jsub_some (jsub_some (jsub_some (jsub_some (jsub_some (jsub_some jsub_nil))))))))

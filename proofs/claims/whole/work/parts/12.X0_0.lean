def wX0_add (G : jG) (l : Launch) (d : Nat) (x1 : Int32) (I : jS) (L : jL) (Q : Option Value → jS → jL → Prop) : Prop := if (I 68 2) < 0 then (Q (some (.int (-3 : Int32))) I L) else (if (I 68 2) < (50 : Int32) then (vp_in (I 68 2) 50 ∧ (Q (some (.int (((I 68 2) + (1 : Int32)) - (1 : Int32)))) (u2 (u2 I 69 ((I 68 2).toNatClampNeg) x1) 68 2 ((I 68 2) + (1 : Int32))) L)) else (Q (some (.int (-3 : Int32))) I L))
set_option maxRecDepth 100000 in
set_option maxHeartbeats 4000000 in
theorem wX0_add_ok {G : jG} {l : Launch} {d : Nat} {Q : Option Value → jS → jL → Prop} {x1 : Int32} {I : jS} {L : jL} (h : wX0_add G l d x1 I L Q) : cM G l mX0_add (d + 1) [.ref 68, .int x1] I L Q := by
  rw [wX0_add] at h
  show jCall G l yX0_add cX0_add 2 (some .int) (d + 1) 0 0 _ (jKS, I, L, jR0) _
  refine jCall_of (n0 := 0) (ls := [some (.ref 68), some (.int x1)]) (by decide +kernel) rfl (Nat.le_of_ble_eq_true rfl) (jQm_of ?_)
  refine jr_aload_n dX0_add_0 rfl rfl ?_
  refine jv_geti rfl ff_X0_18 ks_68 dX0_add_1 ?_
  refine jr_if_lt dX0_add_4 (tgt := 16) (by decide) (fun c => ?_) (fun c => ?_)
  · rw [if_pos c] at h
    refine jr_bipush dX0_add_16 kbp_m3 ?_
    exact jr_ireturn dX0_add_18 ⟨Or.inr (Or.inl ⟨rfl, _, rfl⟩), _, _, rfl, h⟩
  · rw [if_neg c] at h
    refine jr_aload_n dX0_add_7 rfl rfl ?_
    refine jv_geti rfl ff_X0_18 ks_68 dX0_add_8 ?_
    refine jr_bipush dX0_add_11 kbp_50 ?_
    refine jr_icmp_lt dX0_add_13 (tgt := 19) (by decide) (fun c => ?_) (fun c => ?_)
    · rw [if_pos c] at h
      refine jr_aload_n dX0_add_19 rfl rfl ?_
      refine jr_geta ff_X0_11 ks_68 rr_68_0 dX0_add_20 ?_
      refine jr_aload_n dX0_add_23 rfl rfl ?_
      refine jv_geti rfl ff_X0_18 ks_68 dX0_add_24 ?_
      refine jr_iload_n dX0_add_27 rfl rfl ?_
      obtain ⟨g1, h⟩ := h
      refine jr_iastore rfl ks_69 dX0_add_28 g1 ?_
      refine jr_aload_n dX0_add_29 rfl rfl ?_
      refine jr_dup dX0_add_30 rfl ?_
      refine jv_geti (u2n (by decide)) ff_X0_18 ks_68 dX0_add_31 ?_
      refine jr_iconst dX0_add_34 kic_1 ?_
      refine jr_iadd dX0_add_35 ?_
      refine jr_puti ff_X0_18 ks_68 dX0_add_36 ?_
      refine jr_aload_n dX0_add_39 rfl rfl ?_
      refine jv_geti u2e ff_X0_18 ks_68 dX0_add_40 ?_
      refine jr_iconst dX0_add_43 kic_1 ?_
      refine jr_isub dX0_add_44 ?_
      exact jr_ireturn dX0_add_45 ⟨Or.inr (Or.inl ⟨rfl, _, rfl⟩), _, _, rfl, h⟩
    · rw [if_neg c] at h
      refine jr_bipush dX0_add_16 kbp_m3 ?_
      exact jr_ireturn dX0_add_18 ⟨Or.inr (Or.inl ⟨rfl, _, rfl⟩), _, _, rfl, h⟩
def wX0_kindOf (G : jG) (l : Launch) (d : Nat) (x1 : Int32) (I : jS) (L : jL) (Q : Option Value → jS → jL → Prop) : Prop := if x1 < 0 then (Q (some (.int (-1 : Int32))) I L) else (if (I 68 2) ≤ x1 then (Q (some (.int (-1 : Int32))) I L) else (if (50 : Int32) ≤ x1 then (Q (some (.int (-1 : Int32))) I L) else (vp_in x1 50 ∧ (Q (some (.int (I 69 x1.toNatClampNeg))) I L))))
set_option maxRecDepth 100000 in
set_option maxHeartbeats 4000000 in
theorem wX0_kindOf_ok {G : jG} {l : Launch} {d : Nat} {Q : Option Value → jS → jL → Prop} {x1 : Int32} {I : jS} {L : jL} (h : wX0_kindOf G l d x1 I L Q) : cM G l mX0_kindOf (d + 1) [.ref 68, .int x1] I L Q := by
  rw [wX0_kindOf] at h
  show jCall G l yX0_kindOf cX0_kindOf 2 (some .int) (d + 1) 0 0 _ (jKS, I, L, jR0) _
  refine jCall_of (n0 := 0) (ls := [some (.ref 68), some (.int x1)]) (by decide +kernel) rfl (Nat.le_of_ble_eq_true rfl) (jQm_of ?_)
  refine jr_iload_n dX0_kindOf_0 rfl rfl ?_
  refine jr_if_lt dX0_kindOf_1 (tgt := 27) (by decide) (fun c => ?_) (fun c => ?_)
  · rw [if_pos c] at h
    refine jr_iconst dX0_kindOf_27 kic_m1 ?_
    exact jr_ireturn dX0_kindOf_28 ⟨Or.inr (Or.inl ⟨rfl, _, rfl⟩), _, _, rfl, h⟩
  · rw [if_neg c] at h
    refine jr_iload_n dX0_kindOf_4 rfl rfl ?_
    refine jr_aload_n dX0_kindOf_5 rfl rfl ?_
    refine jv_geti rfl ff_X0_18 ks_68 dX0_kindOf_6 ?_
    refine jr_icmp_ge dX0_kindOf_9 (tgt := 27) (by decide) (fun c => ?_) (fun c => ?_)
    · rw [if_pos c] at h
      refine jr_iconst dX0_kindOf_27 kic_m1 ?_
      exact jr_ireturn dX0_kindOf_28 ⟨Or.inr (Or.inl ⟨rfl, _, rfl⟩), _, _, rfl, h⟩
    · rw [if_neg c] at h
      refine jr_iload_n dX0_kindOf_12 rfl rfl ?_
      refine jr_bipush dX0_kindOf_13 kbp_50 ?_
      refine jr_icmp_ge dX0_kindOf_15 (tgt := 27) (by decide) (fun c => ?_) (fun c => ?_)
      · rw [if_pos c] at h
        refine jr_iconst dX0_kindOf_27 kic_m1 ?_
        exact jr_ireturn dX0_kindOf_28 ⟨Or.inr (Or.inl ⟨rfl, _, rfl⟩), _, _, rfl, h⟩
      · rw [if_neg c] at h
        refine jr_aload_n dX0_kindOf_18 rfl rfl ?_
        refine jr_geta ff_X0_11 ks_68 rr_68_0 dX0_kindOf_19 ?_
        refine jr_iload_n dX0_kindOf_22 rfl rfl ?_
        obtain ⟨g1, h⟩ := h
        refine jv_iaload rfl rfl ks_69 dX0_kindOf_23 g1 ?_
        refine jr_goto dX0_kindOf_24 (tgt := 28) (by decide) ?_
        exact jr_ireturn dX0_kindOf_28 ⟨Or.inr (Or.inl ⟨rfl, _, rfl⟩), _, _, rfl, h⟩
def wX0_above (G : jG) (l : Launch) (d : Nat) (x0 : Int32) (I : jS) (L : jL) (Q : Option Value → jS → jL → Prop) : Prop := cI G l mX11_isKind d [.int x0] I L (fun r1 I1 L1 => (if r1 = 0 then (Q (some (.int (-1 : Int32))) I1 L1) else (vp_in x0 (G.2.2.2.2 5).1 ∧ (Q (some (.int ((G.2.2.2.2 5).2 x0.toNatClampNeg))) I1 L1))))
set_option maxRecDepth 100000 in
set_option maxHeartbeats 4000000 in
theorem wX0_above_ok {G : jG} {l : Launch} {d : Nat} {Q : Option Value → jS → jL → Prop} {x0 : Int32} {I : jS} {L : jL} (h : wX0_above G l d x0 I L Q) : cM G l mX0_above (d + 1) [.int x0] I L Q := by
  rw [wX0_above] at h
  show jCall G l yX0_above cX0_above 1 (some .int) (d + 1) 0 0 _ (jKS, I, L, jR0) _
  refine jCall_of (n0 := 0) (ls := [some (.int x0)]) (by decide +kernel) rfl (Nat.le_of_ble_eq_true rfl) (jQm_of ?_)
  refine jr_iload_n dX0_above_0 rfl rfl ?_
  refine jr_callSN (mc2 := 0) (mc := 0) (ms2 := 0) (ms := 0) vm_X0_28 (av := [.int x0]) (st := []) rfl rfl (Nat.le_of_ble_eq_true rfl) dX0_above_1 (cI_use (M := (yX11_isKind, cX11_isKind, 1, some .boolean)) h ?_)
  intro r1 I1 L1 h
  refine jr_if_eq dX0_above_4 (tgt := 15) (by decide) (fun c => ?_) (fun c => ?_)
  · rw [if_pos c] at h
    refine jr_iconst dX0_above_15 kic_m1 ?_
    exact jr_ireturn dX0_above_16 ⟨Or.inr (Or.inl ⟨rfl, _, rfl⟩), _, _, rfl, h⟩
  · rw [if_neg c] at h
    refine jr_getstatic (r := 1005) (by decide +kernel) fs_X0_32 dX0_above_7 ?_
    refine jr_iload_n dX0_above_10 rfl rfl ?_
    obtain ⟨g2, h⟩ := h
    refine jr_oaload rfl (r := 5) (by decide) dX0_above_11 g2 ?_
    refine jr_goto dX0_above_12 (tgt := 16) (by decide) ?_
    exact jr_ireturn dX0_above_16 ⟨Or.inr (Or.inl ⟨rfl, _, rfl⟩), _, _, rfl, h⟩
def wX0_isUnder_5 (G : jG) (l : Launch) (d : Nat) (Q : Option Value → jS → jL → Prop) : Nat → Int32 → Int32 → Int32 → jS → jL → Prop
  | 0, _, _, _, _, _ => False
  | n5 + 1, x2, x3, x4, I, L => if (8 : Int32) ≤ x4 then (Q (some (.int (0 : Int32))) I L) else (if x3 < 0 then (Q (some (.int (0 : Int32))) I L) else (if x3 = x2 then (Q (some (.int (1 : Int32))) I L) else (cI G l mX0_above d [.int x3] I L (fun r1 I1 L1 => ((wX0_isUnder_5 G l d Q n5) x2 r1 (x4 + (1 : Int32)) I1 L1)))))
set_option maxRecDepth 100000 in
set_option maxHeartbeats 4000000 in
theorem wX0_isUnder_5_ok {G : jG} {l : Launch} {d : Nat} {Q : Option Value → jS → jL → Prop} : ∀ (n : Nat) (x2 : Int32) (x3 : Int32) (x4 : Int32) (I : jS) (L : jL), wX0_isUnder_5 G l d Q n x2 x3 x4 I L → J G l yX0_isUnder cX0_isUnder 5 (d + 1) 0 0 5 [none, none, some (.int x2), some (.int x3), some (.int x4)] [] (jKS, I, L, jR0) (jQm (some .boolean) Q) := by
  intro n
  induction n with
  | zero => intro x2 x3 x4 I L h; exact h.elim
  | succ n ih =>
    intro x2 x3 x4 I L h
    rw [wX0_isUnder_5] at h
    refine jr_iload dX0_isUnder_5 rfl ?_
    refine jr_bipush dX0_isUnder_7 kbp_8 ?_
    refine jr_icmp_ge dX0_isUnder_9 (tgt := 34) (by decide) (fun c => ?_) (fun c => ?_)
    · rw [if_pos c] at h
      refine jr_iconst dX0_isUnder_34 kic_0 ?_
      exact jr_ireturn dX0_isUnder_35 ⟨Or.inr (Or.inr (Or.inr ⟨rfl, Or.inl rfl⟩)), _, _, rfl, h⟩
    · rw [if_neg c] at h
      refine jr_iload_n dX0_isUnder_12 rfl rfl ?_
      refine jr_if_lt dX0_isUnder_13 (tgt := 34) (by decide) (fun c => ?_) (fun c => ?_)
      · rw [if_pos c] at h
        refine jr_iconst dX0_isUnder_34 kic_0 ?_
        exact jr_ireturn dX0_isUnder_35 ⟨Or.inr (Or.inr (Or.inr ⟨rfl, Or.inl rfl⟩)), _, _, rfl, h⟩
      · rw [if_neg c] at h
        refine jr_iload_n dX0_isUnder_16 rfl rfl ?_
        refine jr_iload_n dX0_isUnder_17 rfl rfl ?_
        refine jr_icmp_ne dX0_isUnder_18 (tgt := 23) (by decide) (fun c => ?_) (fun c => ?_)
        · rw [if_neg c] at h
          refine jr_iload_n dX0_isUnder_23 rfl rfl ?_
          refine jr_callS (mc2 := 0) (mc := 0) (ms2 := 0) (ms := 0) vm_X0_35 (av := [.int x3]) (st := []) rfl rfl (Nat.le_of_ble_eq_true rfl) dX0_isUnder_24 (cI_use (M := (yX0_above, cX0_above, 1, some .int)) h ?_)
          intro r1 I1 L1 h
          refine jr_istore_n dX0_isUnder_27 rfl (by decide) rfl ?_
          refine jr_iinc dX0_isUnder_28 rfl (by rw [kic_1]) (by decide) rfl ?_
          refine jr_goto dX0_isUnder_31 (tgt := 5) (by decide) ?_
          exact J.sub (ih _ _ _ _ _ h) (jsub_none (jsub_none (jsub_some (jsub_some (jsub_some jsub_nil)))))
        · rw [if_pos c] at h
          refine jr_iconst dX0_isUnder_21 kic_1 ?_
          exact jr_ireturn dX0_isUnder_22 ⟨Or.inr (Or.inr (Or.inr ⟨rfl, Or.inr rfl⟩)), _, _, rfl, h⟩
def wX0_isUnder (G : jG) (l : Launch) (d : Nat) (x1 : Int32) (x2 : Int32) (I : jS) (L : jL) (Q : Option Value → jS → jL → Prop) : Prop := ∃ e5 : Nat, wX0_isUnder_5 G l d Q e5 x2 x1 (0 : Int32) I L
set_option maxRecDepth 100000 in
set_option maxHeartbeats 4000000 in
theorem wX0_isUnder_ok {G : jG} {l : Launch} {d : Nat} {Q : Option Value → jS → jL → Prop} {x1 : Int32} {x2 : Int32} {I : jS} {L : jL} (h : wX0_isUnder G l d x1 x2 I L Q) : cM G l mX0_isUnder (d + 1) [.ref 68, .int x1, .int x2] I L Q := by
  rw [wX0_isUnder] at h
  show jCall G l yX0_isUnder cX0_isUnder 5 (some .boolean) (d + 1) 0 0 _ (jKS, I, L, jR0) _
  refine jCall_of (n0 := 2) (ls := [some (.ref 68), some (.int x1), some (.int x2), none, none]) (by decide +kernel) rfl (Nat.le_of_ble_eq_true rfl) (jQm_of ?_)
  refine jr_iload_n dX0_isUnder_0 rfl rfl ?_
  refine jr_istore_n dX0_isUnder_1 rfl (by decide) rfl ?_
  refine jr_iconst dX0_isUnder_2 kic_0 ?_
  refine jr_istore dX0_isUnder_3 (by decide) rfl ?_
  obtain ⟨e5, h⟩ := h
  exact J.sub (wX0_isUnder_5_ok  e5 _ _ _ _ _ h) (jsub_none (jsub_none (jsub_some (jsub_some (jsub_some jsub_nil)))))
def wX0_start (G : jG) (l : Launch) (d : Nat) (x1 : Int32) (x2 : Int32) (x3 : Int32) (I : jS) (L : jL) (Q : Option Value → jS → jL → Prop) : Prop := cI G l mX0_kindOf d [.ref 68, .int x1] (u2 I 68 3 (0 : Int32)) L (fun r1 I1 L1 => (if r1 < 0 then (Q (some (.int (0 : Int32))) I1 L1) else (if x2 < 0 then (Q (some (.int (0 : Int32))) I1 L1) else (if x2 < (4 : Int32) then (cI G l mX0_run d [.ref 68, .int r1, .int r1, .int x2, .int x3, .int (0 : Int32)] (u2 I1 68 4 x1) L1 (fun r2 I2 L2 => (Q (some (.int r2)) I2 L2))) else (Q (some (.int (0 : Int32))) I1 L1)))))
set_option maxRecDepth 100000 in
set_option maxHeartbeats 4000000 in
theorem wX0_start_ok {G : jG} {l : Launch} {d : Nat} {Q : Option Value → jS → jL → Prop} {x1 : Int32} {x2 : Int32} {x3 : Int32} {I : jS} {L : jL} (h : wX0_start G l d x1 x2 x3 I L Q) : cM G l mX0_start (d + 1) [.ref 68, .int x1, .int x2, .int x3] I L Q := by
  rw [wX0_start] at h
  show jCall G l yX0_start cX0_start 5 (some .int) (d + 1) 0 0 _ (jKS, I, L, jR0) _
  refine jCall_of (n0 := 1) (ls := [some (.ref 68), some (.int x1), some (.int x2), some (.int x3), none]) (by decide +kernel) rfl (Nat.le_of_ble_eq_true rfl) (jQm_of ?_)
  refine jr_aload_n dX0_start_0 rfl rfl ?_
  refine jr_iconst dX0_start_1 kic_0 ?_
  refine jr_puti ff_X0_22 ks_68 dX0_start_2 ?_
  refine jr_aload_n dX0_start_5 rfl rfl ?_
  refine jr_iload_n dX0_start_6 rfl rfl ?_
  refine jr_callV (mc2 := 0) (mc := 0) (ms2 := 0) (ms := 0) vm_X0_39 (av := [.int x1]) (st := []) rfl rfl ks_68 (by decide) rfl (Nat.le_of_ble_eq_true rfl) dX0_start_7 (cI_use (M := (yX0_kindOf, cX0_kindOf, 2, some .int)) h ?_)
  intro r1 I1 L1 h
  refine jr_istore dX0_start_10 (by decide) rfl ?_
  refine jr_iload dX0_start_12 rfl ?_
  refine jr_if_lt dX0_start_14 (tgt := 26) (by decide) (fun c => ?_) (fun c => ?_)
  · rw [if_pos c] at h
    refine jr_iconst dX0_start_26 kic_0 ?_
    exact jr_ireturn dX0_start_27 ⟨Or.inr (Or.inl ⟨rfl, _, rfl⟩), _, _, rfl, h⟩
  · rw [if_neg c] at h
    refine jr_iload_n dX0_start_17 rfl rfl ?_
    refine jr_if_lt dX0_start_18 (tgt := 26) (by decide) (fun c => ?_) (fun c => ?_)
    · rw [if_pos c] at h
      refine jr_iconst dX0_start_26 kic_0 ?_
      exact jr_ireturn dX0_start_27 ⟨Or.inr (Or.inl ⟨rfl, _, rfl⟩), _, _, rfl, h⟩
    · rw [if_neg c] at h
      refine jr_iload_n dX0_start_21 rfl rfl ?_
      refine jr_iconst dX0_start_22 kic_4 ?_
      refine jr_icmp_lt dX0_start_23 (tgt := 28) (by decide) (fun c => ?_) (fun c => ?_)
      · rw [if_pos c] at h
        refine jr_aload_n dX0_start_28 rfl rfl ?_
        refine jr_iload_n dX0_start_29 rfl rfl ?_
        refine jr_puti ff_X0_25 ks_68 dX0_start_30 ?_
        refine jr_aload_n dX0_start_33 rfl rfl ?_
        refine jr_iload dX0_start_34 rfl ?_
        refine jr_iload dX0_start_36 rfl ?_
        refine jr_iload_n dX0_start_38 rfl rfl ?_
        refine jr_iload_n dX0_start_39 rfl rfl ?_
        refine jr_iconst dX0_start_40 kic_0 ?_
        refine jr_callV (mc2 := 0) (mc := 0) (ms2 := 0) (ms := 0) vm_X0_42 (av := [.int r1, .int r1, .int x2, .int x3, .int (0 : Int32)]) (st := []) rfl rfl ks_68 (by decide) rfl (Nat.le_of_ble_eq_true rfl) dX0_start_41 (cI_use (M := (yX0_run, cX0_run, 10, some .int)) h ?_)
        intro r2 I2 L2 h
        exact jr_ireturn dX0_start_44 ⟨Or.inr (Or.inl ⟨rfl, _, rfl⟩), _, _, rfl, h⟩
      · rw [if_neg c] at h
        refine jr_iconst dX0_start_26 kic_0 ?_
        exact jr_ireturn dX0_start_27 ⟨Or.inr (Or.inl ⟨rfl, _, rfl⟩), _, _, rfl, h⟩
def wX0_traced (G : jG) (l : Launch) (d : Nat) (x1 : Int32) (I : jS) (L : jL) (Q : Option Value → jS → jL → Prop) : Prop := if x1 < 0 then (Q (some (.int (-1 : Int32))) I L) else (if (I 68 3) ≤ x1 then (Q (some (.int (-1 : Int32))) I L) else (if (24 : Int32) ≤ x1 then (Q (some (.int (-1 : Int32))) I L) else (vp_in x1 24 ∧ (Q (some (.int (I 70 x1.toNatClampNeg))) I L))))
set_option maxRecDepth 100000 in
set_option maxHeartbeats 4000000 in
theorem wX0_traced_ok {G : jG} {l : Launch} {d : Nat} {Q : Option Value → jS → jL → Prop} {x1 : Int32} {I : jS} {L : jL} (h : wX0_traced G l d x1 I L Q) : cM G l mX0_traced (d + 1) [.ref 68, .int x1] I L Q := by
  rw [wX0_traced] at h
  show jCall G l yX0_traced cX0_traced 2 (some .int) (d + 1) 0 0 _ (jKS, I, L, jR0) _
  refine jCall_of (n0 := 0) (ls := [some (.ref 68), some (.int x1)]) (by decide +kernel) rfl (Nat.le_of_ble_eq_true rfl) (jQm_of ?_)
  refine jr_iload_n dX0_traced_0 rfl rfl ?_
  refine jr_if_lt dX0_traced_1 (tgt := 27) (by decide) (fun c => ?_) (fun c => ?_)
  · rw [if_pos c] at h
    refine jr_iconst dX0_traced_27 kic_m1 ?_
    exact jr_ireturn dX0_traced_28 ⟨Or.inr (Or.inl ⟨rfl, _, rfl⟩), _, _, rfl, h⟩
  · rw [if_neg c] at h
    refine jr_iload_n dX0_traced_4 rfl rfl ?_
    refine jr_aload_n dX0_traced_5 rfl rfl ?_
    refine jv_geti rfl ff_X0_22 ks_68 dX0_traced_6 ?_
    refine jr_icmp_ge dX0_traced_9 (tgt := 27) (by decide) (fun c => ?_) (fun c => ?_)
    · rw [if_pos c] at h
      refine jr_iconst dX0_traced_27 kic_m1 ?_
      exact jr_ireturn dX0_traced_28 ⟨Or.inr (Or.inl ⟨rfl, _, rfl⟩), _, _, rfl, h⟩
    · rw [if_neg c] at h
      refine jr_iload_n dX0_traced_12 rfl rfl ?_
      refine jr_bipush dX0_traced_13 kbp_24 ?_
      refine jr_icmp_ge dX0_traced_15 (tgt := 27) (by decide) (fun c => ?_) (fun c => ?_)
      · rw [if_pos c] at h
        refine jr_iconst dX0_traced_27 kic_m1 ?_
        exact jr_ireturn dX0_traced_28 ⟨Or.inr (Or.inl ⟨rfl, _, rfl⟩), _, _, rfl, h⟩
      · rw [if_neg c] at h
        refine jr_aload_n dX0_traced_18 rfl rfl ?_
        refine jr_geta ff_X0_15 ks_68 rr_68_1 dX0_traced_19 ?_
        refine jr_iload_n dX0_traced_22 rfl rfl ?_
        obtain ⟨g1, h⟩ := h
        refine jv_iaload rfl rfl ks_70 dX0_traced_23 g1 ?_
        refine jr_goto dX0_traced_24 (tgt := 28) (by decide) ?_
        exact jr_ireturn dX0_traced_28 ⟨Or.inr (Or.inl ⟨rfl, _, rfl⟩), _, _, rfl, h⟩
def wX0_note_26 (G : jG) (l : Launch) (d : Nat) (Q : Option Value → jS → jL → Prop) (I : jS) (L : jL) : Prop := Q none (u2 I 68 3 ((I 68 3) + (1 : Int32))) L
set_option maxRecDepth 100000 in
set_option maxHeartbeats 4000000 in
theorem wX0_note_26_ok {G : jG} {l : Launch} {d : Nat} {Q : Option Value → jS → jL → Prop} : ∀ (I : jS) (L : jL), wX0_note_26 G l d Q I L → J G l yX0_note cX0_note 2 (d + 1) 0 0 26 [some (.ref 68), none] [] (jKS, I, L, jR0) (jQm (none) Q) := by
  intro I L h
  rw [wX0_note_26] at h
  refine jr_aload_n dX0_note_26 rfl rfl ?_
  refine jr_dup dX0_note_27 rfl ?_
  refine jv_geti rfl ff_X0_22 ks_68 dX0_note_28 ?_
  refine jr_iconst dX0_note_31 kic_1 ?_
  refine jr_iadd dX0_note_32 ?_
  refine jr_puti ff_X0_22 ks_68 dX0_note_33 ?_
  exact jr_return dX0_note_36 ⟨Or.inl ⟨rfl, rfl⟩, _, _, rfl, h⟩
def wX0_note (G : jG) (l : Launch) (d : Nat) (x1 : Int32) (I : jS) (L : jL) (Q : Option Value → jS → jL → Prop) : Prop := if (I 68 3) < 0 then (wX0_note_26 G l d Q I L) else (if (24 : Int32) ≤ (I 68 3) then (wX0_note_26 G l d Q I L) else (vp_in (I 68 3) 24 ∧ (wX0_note_26 G l d Q (u2 I 70 ((I 68 3).toNatClampNeg) x1) L)))
set_option maxRecDepth 100000 in
set_option maxHeartbeats 4000000 in
theorem wX0_note_ok {G : jG} {l : Launch} {d : Nat} {Q : Option Value → jS → jL → Prop} {x1 : Int32} {I : jS} {L : jL} (h : wX0_note G l d x1 I L Q) : cM G l mX0_note (d + 1) [.ref 68, .int x1] I L Q := by
  rw [wX0_note] at h
  show jCall G l yX0_note cX0_note 2 (none) (d + 1) 0 0 _ (jKS, I, L, jR0) _
  refine jCall_of (n0 := 0) (ls := [some (.ref 68), some (.int x1)]) (by decide +kernel) rfl (Nat.le_of_ble_eq_true rfl) (jQm_of ?_)
  refine jr_aload_n dX0_note_0 rfl rfl ?_
  refine jv_geti rfl ff_X0_22 ks_68 dX0_note_1 ?_
  refine jr_if_lt dX0_note_4 (tgt := 26) (by decide) (fun c => ?_) (fun c => ?_)
  · rw [if_pos c] at h
    exact J.sub (wX0_note_26_ok  _ _ h) (jsub_some (jsub_none jsub_nil))
  · rw [if_neg c] at h
    refine jr_aload_n dX0_note_7 rfl rfl ?_
    refine jv_geti rfl ff_X0_22 ks_68 dX0_note_8 ?_
    refine jr_bipush dX0_note_11 kbp_24 ?_
    refine jr_icmp_ge dX0_note_13 (tgt := 26) (by decide) (fun c => ?_) (fun c => ?_)
    · rw [if_pos c] at h
      exact J.sub (wX0_note_26_ok  _ _ h) (jsub_some (jsub_none jsub_nil))
    · rw [if_neg c] at h
      refine jr_aload_n dX0_note_16 rfl rfl ?_
      refine jr_geta ff_X0_15 ks_68 rr_68_1 dX0_note_17 ?_
      refine jr_aload_n dX0_note_20 rfl rfl ?_
      refine jv_geti rfl ff_X0_22 ks_68 dX0_note_21 ?_
      refine jr_iload_n dX0_note_24 rfl rfl ?_
      obtain ⟨g1, h⟩ := h
      refine jr_iastore rfl ks_70 dX0_note_25 g1 ?_
      exact J.sub (wX0_note_26_ok  _ _ h) (jsub_some (jsub_none jsub_nil))
def wX0_bodyOf (G : jG) (l : Launch) (d : Nat) (x0 : Int32) (x1 : Int32) (I : jS) (L : jL) (Q : Option Value → jS → jL → Prop) : Prop := cI G l mX11_isKind d [.int x0] I L (fun r1 I1 L1 => (if r1 = 0 then (Q (some (.int (0 : Int32))) I1 L1) else (if x1 < 0 then (Q (some (.int (0 : Int32))) I1 L1) else (if (4 : Int32) ≤ x1 then (Q (some (.int (0 : Int32))) I1 L1) else (vp_in ((x0 * (4 : Int32)) + x1) (G.2.2.2.2 4).1 ∧ (Q (some (.int ((G.2.2.2.2 4).2 (((x0 * (4 : Int32)) + x1).toNatClampNeg)))) I1 L1))))))
set_option maxRecDepth 100000 in
set_option maxHeartbeats 4000000 in
theorem wX0_bodyOf_ok {G : jG} {l : Launch} {d : Nat} {Q : Option Value → jS → jL → Prop} {x0 : Int32} {x1 : Int32} {I : jS} {L : jL} (h : wX0_bodyOf G l d x0 x1 I L Q) : cM G l mX0_bodyOf (d + 1) [.int x0, .int x1] I L Q := by
  rw [wX0_bodyOf] at h
  show jCall G l yX0_bodyOf cX0_bodyOf 2 (some .int) (d + 1) 0 0 _ (jKS, I, L, jR0) _
  refine jCall_of (n0 := 0) (ls := [some (.int x0), some (.int x1)]) (by decide +kernel) rfl (Nat.le_of_ble_eq_true rfl) (jQm_of ?_)
  refine jr_iload_n dX0_bodyOf_0 rfl rfl ?_
  refine jr_callSN (mc2 := 0) (mc := 0) (ms2 := 0) (ms := 0) vm_X0_28 (av := [.int x0]) (st := []) rfl rfl (Nat.le_of_ble_eq_true rfl) dX0_bodyOf_1 (cI_use (M := (yX11_isKind, cX11_isKind, 1, some .boolean)) h ?_)
  intro r1 I1 L1 h
  refine jr_if_eq dX0_bodyOf_4 (tgt := 28) (by decide) (fun c => ?_) (fun c => ?_)
  · rw [if_pos c] at h
    refine jr_iconst dX0_bodyOf_28 kic_0 ?_
    exact jr_ireturn dX0_bodyOf_29 ⟨Or.inr (Or.inl ⟨rfl, _, rfl⟩), _, _, rfl, h⟩
  · rw [if_neg c] at h
    refine jr_iload_n dX0_bodyOf_7 rfl rfl ?_
    refine jr_if_lt dX0_bodyOf_8 (tgt := 28) (by decide) (fun c => ?_) (fun c => ?_)
    · rw [if_pos c] at h
      refine jr_iconst dX0_bodyOf_28 kic_0 ?_
      exact jr_ireturn dX0_bodyOf_29 ⟨Or.inr (Or.inl ⟨rfl, _, rfl⟩), _, _, rfl, h⟩
    · rw [if_neg c] at h
      refine jr_iload_n dX0_bodyOf_11 rfl rfl ?_
      refine jr_iconst dX0_bodyOf_12 kic_4 ?_
      refine jr_icmp_ge dX0_bodyOf_13 (tgt := 28) (by decide) (fun c => ?_) (fun c => ?_)
      · rw [if_pos c] at h
        refine jr_iconst dX0_bodyOf_28 kic_0 ?_
        exact jr_ireturn dX0_bodyOf_29 ⟨Or.inr (Or.inl ⟨rfl, _, rfl⟩), _, _, rfl, h⟩
      · rw [if_neg c] at h
        refine jr_getstatic (r := 1004) (by decide +kernel) fs_X0_46 dX0_bodyOf_16 ?_
        refine jr_iload_n dX0_bodyOf_19 rfl rfl ?_
        refine jr_iconst dX0_bodyOf_20 kic_4 ?_
        refine jr_imul dX0_bodyOf_21 ?_
        refine jr_iload_n dX0_bodyOf_22 rfl rfl ?_
        refine jr_iadd dX0_bodyOf_23 ?_
        obtain ⟨g2, h⟩ := h
        refine jr_oaload rfl (r := 4) (by decide) dX0_bodyOf_24 g2 ?_
        refine jr_goto dX0_bodyOf_25 (tgt := 29) (by decide) ?_
        exact jr_ireturn dX0_bodyOf_29 ⟨Or.inr (Or.inl ⟨rfl, _, rfl⟩), _, _, rfl, h⟩
def wX0_homeOf_4 (G : jG) (l : Launch) (d : Nat) (Q : Option Value → jS → jL → Prop) : Nat → Int32 → Int32 → Int32 → jS → jL → Prop
  | 0, _, _, _, _, _ => False
  | n4 + 1, x1, x2, x3, I, L => if (8 : Int32) ≤ x3 then (Q (some (.int x2)) I L) else (if x2 < 0 then (Q (some (.int x2)) I L) else (cI G l mX0_bodyOf d [.int x2, .int x1] I L (fun r1 I1 L1 => (if r1 = 0 then (cI G l mX0_above d [.int x2] I1 L1 (fun r2 I2 L2 => ((wX0_homeOf_4 G l d Q n4) x1 r2 (x3 + (1 : Int32)) I2 L2))) else (Q (some (.int x2)) I1 L1)))))
set_option maxRecDepth 100000 in
set_option maxHeartbeats 4000000 in
theorem wX0_homeOf_4_ok {G : jG} {l : Launch} {d : Nat} {Q : Option Value → jS → jL → Prop} : ∀ (n : Nat) (x1 : Int32) (x2 : Int32) (x3 : Int32) (I : jS) (L : jL), wX0_homeOf_4 G l d Q n x1 x2 x3 I L → J G l yX0_homeOf cX0_homeOf 4 (d + 1) 0 0 4 [none, some (.int x1), some (.int x2), some (.int x3)] [] (jKS, I, L, jR0) (jQm (some .int) Q) := by
  intro n
  induction n with
  | zero => intro x1 x2 x3 I L h; exact h.elim
  | succ n ih =>
    intro x1 x2 x3 I L h
    rw [wX0_homeOf_4] at h
    refine jr_iload_n dX0_homeOf_4 rfl rfl ?_
    refine jr_bipush dX0_homeOf_5 kbp_8 ?_
    refine jr_icmp_ge dX0_homeOf_7 (tgt := 33) (by decide) (fun c => ?_) (fun c => ?_)
    · rw [if_pos c] at h
      refine jr_iload_n dX0_homeOf_33 rfl rfl ?_
      exact jr_ireturn dX0_homeOf_34 ⟨Or.inr (Or.inl ⟨rfl, _, rfl⟩), _, _, rfl, h⟩
    · rw [if_neg c] at h
      refine jr_iload_n dX0_homeOf_10 rfl rfl ?_
      refine jr_if_lt dX0_homeOf_11 (tgt := 33) (by decide) (fun c => ?_) (fun c => ?_)
      · rw [if_pos c] at h
        refine jr_iload_n dX0_homeOf_33 rfl rfl ?_
        exact jr_ireturn dX0_homeOf_34 ⟨Or.inr (Or.inl ⟨rfl, _, rfl⟩), _, _, rfl, h⟩
      · rw [if_neg c] at h
        refine jr_iload_n dX0_homeOf_14 rfl rfl ?_
        refine jr_iload_n dX0_homeOf_15 rfl rfl ?_
        refine jr_callS (mc2 := 0) (mc := 0) (ms2 := 0) (ms := 0) vm_X0_49 (av := [.int x2, .int x1]) (st := []) rfl rfl (Nat.le_of_ble_eq_true rfl) dX0_homeOf_16 (cI_use (M := (yX0_bodyOf, cX0_bodyOf, 2, some .int)) h ?_)
        intro r1 I1 L1 h
        refine jr_if_ne dX0_homeOf_19 (tgt := 33) (by decide) (fun c => ?_) (fun c => ?_)
        · rw [if_neg c] at h
          refine jr_iload_n dX0_homeOf_33 rfl rfl ?_
          exact jr_ireturn dX0_homeOf_34 ⟨Or.inr (Or.inl ⟨rfl, _, rfl⟩), _, _, rfl, h⟩
        · rw [if_pos c] at h
          refine jr_iload_n dX0_homeOf_22 rfl rfl ?_
          refine jr_callS (mc2 := 0) (mc := 0) (ms2 := 0) (ms := 0) vm_X0_35 (av := [.int x2]) (st := []) rfl rfl (Nat.le_of_ble_eq_true rfl) dX0_homeOf_23 (cI_use (M := (yX0_above, cX0_above, 1, some .int)) h ?_)
          intro r2 I2 L2 h
          refine jr_istore_n dX0_homeOf_26 rfl (by decide) rfl ?_
          refine jr_iinc dX0_homeOf_27 rfl (by rw [kic_1]) (by decide) rfl ?_
          refine jr_goto dX0_homeOf_30 (tgt := 4) (by decide) ?_
          exact J.sub (ih _ _ _ _ _ h) (jsub_none (jsub_some (jsub_some (jsub_some jsub_nil))))
def wX0_homeOf (G : jG) (l : Launch) (d : Nat) (x0 : Int32) (x1 : Int32) (I : jS) (L : jL) (Q : Option Value → jS → jL → Prop) : Prop := ∃ e4 : Nat, wX0_homeOf_4 G l d Q e4 x1 x0 (0 : Int32) I L
set_option maxRecDepth 100000 in
set_option maxHeartbeats 4000000 in
theorem wX0_homeOf_ok {G : jG} {l : Launch} {d : Nat} {Q : Option Value → jS → jL → Prop} {x0 : Int32} {x1 : Int32} {I : jS} {L : jL} (h : wX0_homeOf G l d x0 x1 I L Q) : cM G l mX0_homeOf (d + 1) [.int x0, .int x1] I L Q := by
  rw [wX0_homeOf] at h
  show jCall G l yX0_homeOf cX0_homeOf 4 (some .int) (d + 1) 0 0 _ (jKS, I, L, jR0) _
  refine jCall_of (n0 := 2) (ls := [some (.int x0), some (.int x1), none, none]) (by decide +kernel) rfl (Nat.le_of_ble_eq_true rfl) (jQm_of ?_)
  refine jr_iload_n dX0_homeOf_0 rfl rfl ?_
  refine jr_istore_n dX0_homeOf_1 rfl (by decide) rfl ?_
  refine jr_iconst dX0_homeOf_2 kic_0 ?_
  refine jr_istore_n dX0_homeOf_3 rfl (by decide) rfl ?_
  obtain ⟨e4, h⟩ := h
  exact J.sub (wX0_homeOf_4_ok  e4 _ _ _ _ _ h) (jsub_none (jsub_some (jsub_some (jsub_some jsub_nil))))
def wX0_run (G : jG) (l : Launch) (d : Nat) (x1 : Int32) (x2 : Int32) (x3 : Int32) (x4 : Int32) (x5 : Int32) (I : jS) (L : jL) (Q : Option Value → jS → jL → Prop) : Prop := cI G l mX0_homeOf d [.int x2, .int x3] I L (fun r1 I1 L1 => (if r1 < 0 then (Q (some (.int (0 : Int32))) I1 L1) else (if x5 ≤ (40 : Int32) then (cI G l mX0_bodyOf d [.int r1, .int x3] I1 L1 (fun r2 I2 L2 => (cI G l mX0_above d [.int r1] I2 L2 (fun r3 I3 L3 => (cV G l mX0_note d [.ref 68, .int r2] I3 L3 (fun I4 L4 => (if r2 = (1 : Int32) then (Q (some (.int (x4 + (I4 68 4)))) I4 L4) else (if r2 = (2 : Int32) then (cI G l mX0_run d [.ref 68, .int x1, .int x1, .int (1 : Int32), .int x4, .int (x5 + (1 : Int32))] I4 L4 (fun r5 I5 L5 => (cI G l mX0_run d [.ref 68, .int x1, .int x1, .int (2 : Int32), .int (1 : Int32), .int (x5 + (1 : Int32))] I5 L5 (fun r6 I6 L6 => (Q (some (.int (r5 - r6))) I6 L6))))) else (if r2 = (10 : Int32) then (cI G l mX0_run d [.ref 68, .int x1, .int x1, .int (0 : Int32), .int x4, .int (x5 + (1 : Int32))] I4 L4 (fun r7 I7 L7 => (Q (some (.int (r7 * (2 : Int32)))) I7 L7))) else (if r2 = (11 : Int32) then (Q (some (.int (x4 ^^^ (I4 68 4)))) I4 L4) else (if r2 = (20 : Int32) then (cI G l mX0_run d [.ref 68, .int x1, .int r3, .int (0 : Int32), .int x4, .int (x5 + (1 : Int32))] I4 L4 (fun r8 I8 L8 => (Q (some (.int (r8 + (3 : Int32)))) I8 L8))) else (if r2 = (30 : Int32) then (cI G l mX0_run d [.ref 68, .int x1, .int r3, .int (1 : Int32), .int x4, .int (x5 + (1 : Int32))] I4 L4 (fun r9 I9 L9 => (Q (some (.int (-r9))) I9 L9))) else (if r2 = (40 : Int32) then (cI G l mX0_run d [.ref 68, .int x1, .int r3, .int (2 : Int32), .int x4, .int (x5 + (1 : Int32))] I4 L4 (fun r10 I10 L10 => (Q (some (.int (r10 * (3 : Int32)))) I10 L10))) else (if r2 = (41 : Int32) then (cI G l mX0_run d [.ref 68, .int x1, .int r3, .int (1 : Int32), .int (x4 + (1 : Int32)), .int (x5 + (1 : Int32))] I4 L4 (fun r11 I11 L11 => (Q (some (.int r11)) I11 L11))) else (if r2 = (50 : Int32) then (cI G l mX0_run d [.ref 68, .int x1, .int r3, .int (2 : Int32), .int x4, .int (x5 + (1 : Int32))] I4 L4 (fun r12 I12 L12 => (cI G l mX0_run d [.ref 68, .int x1, .int x1, .int (0 : Int32), .int (2 : Int32), .int (x5 + (1 : Int32))] I12 L12 (fun r13 I13 L13 => (Q (some (.int (r12 - r13))) I13 L13))))) else (if r2 = (60 : Int32) then (cI G l mX0_run d [.ref 68, .int x1, .int r3, .int (3 : Int32), .int x4, .int (x5 + (1 : Int32))] I4 L4 (fun r14 I14 L14 => (Q (some (.int (r14 ^^^ (5 : Int32)))) I14 L14))) else (if r2 = (70 : Int32) then (cI G l mX0_run d [.ref 68, .int x1, .int r3, .int (0 : Int32), .int x4, .int (x5 + (1 : Int32))] I4 L4 (fun r15 I15 L15 => (Q (some (.int (r15 * (2 : Int32)))) I15 L15))) else (if r2 = (80 : Int32) then (cI G l mX0_run d [.ref 68, .int x1, .int r3, .int (1 : Int32), .int x4, .int (x5 + (1 : Int32))] I4 L4 (fun r16 I16 L16 => (cI G l mX0_run d [.ref 68, .int x1, .int x1, .int (2 : Int32), .int (2 : Int32), .int (x5 + (1 : Int32))] I16 L16 (fun r17 I17 L17 => (Q (some (.int (r16 + r17))) I17 L17))))) else (if r2 = (81 : Int32) then (cI G l mX0_run d [.ref 68, .int x1, .int r3, .int (3 : Int32), .int x4, .int (x5 + (1 : Int32))] I4 L4 (fun r18 I18 L18 => (Q (some (.int (r18 - (1 : Int32)))) I18 L18))) else (Q (some (.int (0 : Int32))) I4 L4)))))))))))))))))))) else (Q (some (.int (0 : Int32))) I1 L1))))
set_option maxRecDepth 100000 in
set_option maxHeartbeats 4000000 in
theorem wX0_run_ok {G : jG} {l : Launch} {d : Nat} {Q : Option Value → jS → jL → Prop} {x1 : Int32} {x2 : Int32} {x3 : Int32} {x4 : Int32} {x5 : Int32} {I : jS} {L : jL} (h : wX0_run G l d x1 x2 x3 x4 x5 I L Q) : cM G l mX0_run (d + 1) [.ref 68, .int x1, .int x2, .int x3, .int x4, .int x5] I L Q := by
  rw [wX0_run] at h
  show jCall G l yX0_run cX0_run 10 (some .int) (d + 1) 0 0 _ (jKS, I, L, jR0) _
  refine jCall_of (n0 := 4) (ls := [some (.ref 68), some (.int x1), some (.int x2), some (.int x3), some (.int x4), some (.int x5), none, none, none, none]) (by decide +kernel) rfl (Nat.le_of_ble_eq_true rfl) (jQm_of ?_)
  refine jr_iload_n dX0_run_0 rfl rfl ?_
  refine jr_iload_n dX0_run_1 rfl rfl ?_
  refine jr_callS (mc2 := 0) (mc := 0) (ms2 := 0) (ms := 0) vm_X0_53 (av := [.int x2, .int x3]) (st := []) rfl rfl (Nat.le_of_ble_eq_true rfl) dX0_run_2 (cI_use (M := (yX0_homeOf, cX0_homeOf, 4, some .int)) h ?_)
  intro r1 I1 L1 h
  refine jr_istore dX0_run_5 (by decide) rfl ?_
  refine jr_iload dX0_run_7 rfl ?_
  refine jr_if_lt dX0_run_9 (tgt := 19) (by decide) (fun c => ?_) (fun c => ?_)
  · rw [if_pos c] at h
    refine jr_iconst dX0_run_19 kic_0 ?_
    exact jr_ireturn dX0_run_20 ⟨Or.inr (Or.inl ⟨rfl, _, rfl⟩), _, _, rfl, h⟩
  · rw [if_neg c] at h
    refine jr_iload dX0_run_12 rfl ?_
    refine jr_bipush dX0_run_14 kbp_40 ?_
    refine jr_icmp_le dX0_run_16 (tgt := 21) (by decide) (fun c => ?_) (fun c => ?_)
    · rw [if_pos c] at h
      refine jr_iload dX0_run_21 rfl ?_
      refine jr_iload_n dX0_run_23 rfl rfl ?_
      refine jr_callS (mc2 := 0) (mc := 0) (ms2 := 0) (ms := 0) vm_X0_49 (av := [.int r1, .int x3]) (st := []) rfl rfl (Nat.le_of_ble_eq_true rfl) dX0_run_24 (cI_use (M := (yX0_bodyOf, cX0_bodyOf, 2, some .int)) h ?_)
      intro r2 I2 L2 h
      refine jr_istore dX0_run_27 (by decide) rfl ?_
      refine jr_iload dX0_run_29 rfl ?_
      refine jr_callS (mc2 := 0) (mc := 0) (ms2 := 0) (ms := 0) vm_X0_35 (av := [.int r1]) (st := []) rfl rfl (Nat.le_of_ble_eq_true rfl) dX0_run_31 (cI_use (M := (yX0_above, cX0_above, 1, some .int)) h ?_)
      intro r3 I3 L3 h
      refine jr_istore dX0_run_34 (by decide) rfl ?_
      refine jr_iload dX0_run_36 rfl ?_
      refine jr_iconst dX0_run_38 kic_1 ?_
      refine jr_iadd dX0_run_39 ?_
      refine jr_istore dX0_run_40 (by decide) rfl ?_
      refine jr_aload_n dX0_run_42 rfl rfl ?_
      refine jr_iload dX0_run_43 rfl ?_
      refine jr_callV (mc2 := 0) (mc := 0) (ms2 := 0) (ms := 0) vm_X0_56 (av := [.int r2]) (st := []) rfl rfl ks_68 (by decide) rfl (Nat.le_of_ble_eq_true rfl) dX0_run_45 (cV_use (M := (yX0_note, cX0_note, 2, none)) h ?_)
      intro I4 L4 h
      refine jr_iload dX0_run_48 rfl ?_
      by_cases c : r2 = (1 : Int32)
      · rw [if_pos c] at h
        refine jr_lookup dX0_run_50 (by decide) (off := 114) (jlk c (by decide)) (tgt := 164) (by decide) ?_
        refine jr_iload dX0_run_164 rfl ?_
        refine jr_aload_n dX0_run_166 rfl rfl ?_
        refine jv_geti rfl ff_X0_25 ks_68 dX0_run_167 ?_
        refine jr_iadd dX0_run_170 ?_
        exact jr_ireturn dX0_run_171 ⟨Or.inr (Or.inl ⟨rfl, _, rfl⟩), _, _, rfl, h⟩
      · rw [if_neg c] at h
        have c1 := c
        by_cases c : r2 = (2 : Int32)
        · rw [if_pos c] at h
          refine jr_lookup dX0_run_50 (by decide) (off := 122) (jlk c (by decide)) (tgt := 172) (by decide) ?_
          refine jr_aload_n dX0_run_172 rfl rfl ?_
          refine jr_iload_n dX0_run_173 rfl rfl ?_
          refine jr_iload_n dX0_run_174 rfl rfl ?_
          refine jr_iconst dX0_run_175 kic_1 ?_
          refine jr_iload dX0_run_176 rfl ?_
          refine jr_iload dX0_run_178 rfl ?_
          refine jr_callV (mc2 := 0) (mc := 0) (ms2 := 0) (ms := 0) vm_X0_42 (av := [.int x1, .int x1, .int (1 : Int32), .int x4, .int (x5 + (1 : Int32))]) (st := []) rfl rfl ks_68 (by decide) rfl (Nat.le_of_ble_eq_true rfl) dX0_run_180 (cI_use (M := (yX0_run, cX0_run, 10, some .int)) h ?_)
          intro r5 I5 L5 h
          refine jr_aload_n dX0_run_183 rfl rfl ?_
          refine jr_iload_n dX0_run_184 rfl rfl ?_
          refine jr_iload_n dX0_run_185 rfl rfl ?_
          refine jr_iconst dX0_run_186 kic_2 ?_
          refine jr_iconst dX0_run_187 kic_1 ?_
          refine jr_iload dX0_run_188 rfl ?_
          refine jr_callV (mc2 := 0) (mc := 0) (ms2 := 0) (ms := 0) vm_X0_42 (av := [.int x1, .int x1, .int (2 : Int32), .int (1 : Int32), .int (x5 + (1 : Int32))]) (st := [.int r5]) rfl rfl ks_68 (by decide) rfl (Nat.le_of_ble_eq_true rfl) dX0_run_190 (cI_use (M := (yX0_run, cX0_run, 10, some .int)) h ?_)
          intro r6 I6 L6 h
          refine jr_isub dX0_run_193 ?_
          exact jr_ireturn dX0_run_194 ⟨Or.inr (Or.inl ⟨rfl, _, rfl⟩), _, _, rfl, h⟩
        · rw [if_neg c] at h
          have c2 := c
          by_cases c : r2 = (10 : Int32)
          · rw [if_pos c] at h
            refine jr_lookup dX0_run_50 (by decide) (off := 145) (jlk c (by decide)) (tgt := 195) (by decide) ?_
            refine jr_aload_n dX0_run_195 rfl rfl ?_
            refine jr_iload_n dX0_run_196 rfl rfl ?_
            refine jr_iload_n dX0_run_197 rfl rfl ?_
            refine jr_iconst dX0_run_198 kic_0 ?_
            refine jr_iload dX0_run_199 rfl ?_
            refine jr_iload dX0_run_201 rfl ?_
            refine jr_callV (mc2 := 0) (mc := 0) (ms2 := 0) (ms := 0) vm_X0_42 (av := [.int x1, .int x1, .int (0 : Int32), .int x4, .int (x5 + (1 : Int32))]) (st := []) rfl rfl ks_68 (by decide) rfl (Nat.le_of_ble_eq_true rfl) dX0_run_203 (cI_use (M := (yX0_run, cX0_run, 10, some .int)) h ?_)
            intro r7 I7 L7 h
            refine jr_iconst dX0_run_206 kic_2 ?_
            refine jr_imul dX0_run_207 ?_
            exact jr_ireturn dX0_run_208 ⟨Or.inr (Or.inl ⟨rfl, _, rfl⟩), _, _, rfl, h⟩
          · rw [if_neg c] at h
            have c10 := c
            by_cases c : r2 = (11 : Int32)
            · rw [if_pos c] at h
              refine jr_lookup dX0_run_50 (by decide) (off := 159) (jlk c (by decide)) (tgt := 209) (by decide) ?_
              refine jr_iload dX0_run_209 rfl ?_
              refine jr_aload_n dX0_run_211 rfl rfl ?_
              refine jv_geti rfl ff_X0_25 ks_68 dX0_run_212 ?_
              refine jr_ixor dX0_run_215 ?_
              exact jr_ireturn dX0_run_216 ⟨Or.inr (Or.inl ⟨rfl, _, rfl⟩), _, _, rfl, h⟩
            · rw [if_neg c] at h
              have c11 := c
              by_cases c : r2 = (20 : Int32)
              · rw [if_pos c] at h
                refine jr_lookup dX0_run_50 (by decide) (off := 167) (jlk c (by decide)) (tgt := 217) (by decide) ?_
                refine jr_aload_n dX0_run_217 rfl rfl ?_
                refine jr_iload_n dX0_run_218 rfl rfl ?_
                refine jr_iload dX0_run_219 rfl ?_
                refine jr_iconst dX0_run_221 kic_0 ?_
                refine jr_iload dX0_run_222 rfl ?_
                refine jr_iload dX0_run_224 rfl ?_
                refine jr_callV (mc2 := 0) (mc := 0) (ms2 := 0) (ms := 0) vm_X0_42 (av := [.int x1, .int r3, .int (0 : Int32), .int x4, .int (x5 + (1 : Int32))]) (st := []) rfl rfl ks_68 (by decide) rfl (Nat.le_of_ble_eq_true rfl) dX0_run_226 (cI_use (M := (yX0_run, cX0_run, 10, some .int)) h ?_)
                intro r8 I8 L8 h
                refine jr_iconst dX0_run_229 kic_3 ?_
                refine jr_iadd dX0_run_230 ?_
                exact jr_ireturn dX0_run_231 ⟨Or.inr (Or.inl ⟨rfl, _, rfl⟩), _, _, rfl, h⟩
              · rw [if_neg c] at h
                have c20 := c
                by_cases c : r2 = (30 : Int32)
                · rw [if_pos c] at h
                  refine jr_lookup dX0_run_50 (by decide) (off := 182) (jlk c (by decide)) (tgt := 232) (by decide) ?_
                  refine jr_aload_n dX0_run_232 rfl rfl ?_
                  refine jr_iload_n dX0_run_233 rfl rfl ?_
                  refine jr_iload dX0_run_234 rfl ?_
                  refine jr_iconst dX0_run_236 kic_1 ?_
                  refine jr_iload dX0_run_237 rfl ?_
                  refine jr_iload dX0_run_239 rfl ?_
                  refine jr_callV (mc2 := 0) (mc := 0) (ms2 := 0) (ms := 0) vm_X0_42 (av := [.int x1, .int r3, .int (1 : Int32), .int x4, .int (x5 + (1 : Int32))]) (st := []) rfl rfl ks_68 (by decide) rfl (Nat.le_of_ble_eq_true rfl) dX0_run_241 (cI_use (M := (yX0_run, cX0_run, 10, some .int)) h ?_)
                  intro r9 I9 L9 h
                  refine jr_ineg dX0_run_244 ?_
                  exact jr_ireturn dX0_run_245 ⟨Or.inr (Or.inl ⟨rfl, _, rfl⟩), _, _, rfl, h⟩
                · rw [if_neg c] at h
                  have c30 := c
                  by_cases c : r2 = (40 : Int32)
                  · rw [if_pos c] at h
                    refine jr_lookup dX0_run_50 (by decide) (off := 196) (jlk c (by decide)) (tgt := 246) (by decide) ?_
                    refine jr_aload_n dX0_run_246 rfl rfl ?_
                    refine jr_iload_n dX0_run_247 rfl rfl ?_
                    refine jr_iload dX0_run_248 rfl ?_
                    refine jr_iconst dX0_run_250 kic_2 ?_
                    refine jr_iload dX0_run_251 rfl ?_
                    refine jr_iload dX0_run_253 rfl ?_
                    refine jr_callV (mc2 := 0) (mc := 0) (ms2 := 0) (ms := 0) vm_X0_42 (av := [.int x1, .int r3, .int (2 : Int32), .int x4, .int (x5 + (1 : Int32))]) (st := []) rfl rfl ks_68 (by decide) rfl (Nat.le_of_ble_eq_true rfl) dX0_run_255 (cI_use (M := (yX0_run, cX0_run, 10, some .int)) h ?_)
                    intro r10 I10 L10 h
                    refine jr_iconst dX0_run_258 kic_3 ?_
                    refine jr_imul dX0_run_259 ?_
                    exact jr_ireturn dX0_run_260 ⟨Or.inr (Or.inl ⟨rfl, _, rfl⟩), _, _, rfl, h⟩
                  · rw [if_neg c] at h
                    have c40 := c
                    by_cases c : r2 = (41 : Int32)
                    · rw [if_pos c] at h
                      refine jr_lookup dX0_run_50 (by decide) (off := 211) (jlk c (by decide)) (tgt := 261) (by decide) ?_
                      refine jr_aload_n dX0_run_261 rfl rfl ?_
                      refine jr_iload_n dX0_run_262 rfl rfl ?_
                      refine jr_iload dX0_run_263 rfl ?_
                      refine jr_iconst dX0_run_265 kic_1 ?_
                      refine jr_iload dX0_run_266 rfl ?_
                      refine jr_iconst dX0_run_268 kic_1 ?_
                      refine jr_iadd dX0_run_269 ?_
                      refine jr_iload dX0_run_270 rfl ?_
                      refine jr_callV (mc2 := 0) (mc := 0) (ms2 := 0) (ms := 0) vm_X0_42 (av := [.int x1, .int r3, .int (1 : Int32), .int (x4 + (1 : Int32)), .int (x5 + (1 : Int32))]) (st := []) rfl rfl ks_68 (by decide) rfl (Nat.le_of_ble_eq_true rfl) dX0_run_272 (cI_use (M := (yX0_run, cX0_run, 10, some .int)) h ?_)
                      intro r11 I11 L11 h
                      exact jr_ireturn dX0_run_275 ⟨Or.inr (Or.inl ⟨rfl, _, rfl⟩), _, _, rfl, h⟩
                    · rw [if_neg c] at h
                      have c41 := c
                      by_cases c : r2 = (50 : Int32)
                      · rw [if_pos c] at h
                        refine jr_lookup dX0_run_50 (by decide) (off := 226) (jlk c (by decide)) (tgt := 276) (by decide) ?_
                        refine jr_aload_n dX0_run_276 rfl rfl ?_
                        refine jr_iload_n dX0_run_277 rfl rfl ?_
                        refine jr_iload dX0_run_278 rfl ?_
                        refine jr_iconst dX0_run_280 kic_2 ?_
                        refine jr_iload dX0_run_281 rfl ?_
                        refine jr_iload dX0_run_283 rfl ?_
                        refine jr_callV (mc2 := 0) (mc := 0) (ms2 := 0) (ms := 0) vm_X0_42 (av := [.int x1, .int r3, .int (2 : Int32), .int x4, .int (x5 + (1 : Int32))]) (st := []) rfl rfl ks_68 (by decide) rfl (Nat.le_of_ble_eq_true rfl) dX0_run_285 (cI_use (M := (yX0_run, cX0_run, 10, some .int)) h ?_)
                        intro r12 I12 L12 h
                        refine jr_aload_n dX0_run_288 rfl rfl ?_
                        refine jr_iload_n dX0_run_289 rfl rfl ?_
                        refine jr_iload_n dX0_run_290 rfl rfl ?_
                        refine jr_iconst dX0_run_291 kic_0 ?_
                        refine jr_iconst dX0_run_292 kic_2 ?_
                        refine jr_iload dX0_run_293 rfl ?_
                        refine jr_callV (mc2 := 0) (mc := 0) (ms2 := 0) (ms := 0) vm_X0_42 (av := [.int x1, .int x1, .int (0 : Int32), .int (2 : Int32), .int (x5 + (1 : Int32))]) (st := [.int r12]) rfl rfl ks_68 (by decide) rfl (Nat.le_of_ble_eq_true rfl) dX0_run_295 (cI_use (M := (yX0_run, cX0_run, 10, some .int)) h ?_)
                        intro r13 I13 L13 h
                        refine jr_isub dX0_run_298 ?_
                        exact jr_ireturn dX0_run_299 ⟨Or.inr (Or.inl ⟨rfl, _, rfl⟩), _, _, rfl, h⟩
                      · rw [if_neg c] at h
                        have c50 := c
                        by_cases c : r2 = (60 : Int32)
                        · rw [if_pos c] at h
                          refine jr_lookup dX0_run_50 (by decide) (off := 250) (jlk c (by decide)) (tgt := 300) (by decide) ?_
                          refine jr_aload_n dX0_run_300 rfl rfl ?_
                          refine jr_iload_n dX0_run_301 rfl rfl ?_
                          refine jr_iload dX0_run_302 rfl ?_
                          refine jr_iconst dX0_run_304 kic_3 ?_
                          refine jr_iload dX0_run_305 rfl ?_
                          refine jr_iload dX0_run_307 rfl ?_
                          refine jr_callV (mc2 := 0) (mc := 0) (ms2 := 0) (ms := 0) vm_X0_42 (av := [.int x1, .int r3, .int (3 : Int32), .int x4, .int (x5 + (1 : Int32))]) (st := []) rfl rfl ks_68 (by decide) rfl (Nat.le_of_ble_eq_true rfl) dX0_run_309 (cI_use (M := (yX0_run, cX0_run, 10, some .int)) h ?_)
                          intro r14 I14 L14 h
                          refine jr_iconst dX0_run_312 kic_5 ?_
                          refine jr_ixor dX0_run_313 ?_
                          exact jr_ireturn dX0_run_314 ⟨Or.inr (Or.inl ⟨rfl, _, rfl⟩), _, _, rfl, h⟩
                        · rw [if_neg c] at h
                          have c60 := c
                          by_cases c : r2 = (70 : Int32)
                          · rw [if_pos c] at h
                            refine jr_lookup dX0_run_50 (by decide) (off := 265) (jlk c (by decide)) (tgt := 315) (by decide) ?_
                            refine jr_aload_n dX0_run_315 rfl rfl ?_
                            refine jr_iload_n dX0_run_316 rfl rfl ?_
                            refine jr_iload dX0_run_317 rfl ?_
                            refine jr_iconst dX0_run_319 kic_0 ?_
                            refine jr_iload dX0_run_320 rfl ?_
                            refine jr_iload dX0_run_322 rfl ?_
                            refine jr_callV (mc2 := 0) (mc := 0) (ms2 := 0) (ms := 0) vm_X0_42 (av := [.int x1, .int r3, .int (0 : Int32), .int x4, .int (x5 + (1 : Int32))]) (st := []) rfl rfl ks_68 (by decide) rfl (Nat.le_of_ble_eq_true rfl) dX0_run_324 (cI_use (M := (yX0_run, cX0_run, 10, some .int)) h ?_)
                            intro r15 I15 L15 h
                            refine jr_iconst dX0_run_327 kic_2 ?_
                            refine jr_imul dX0_run_328 ?_
                            exact jr_ireturn dX0_run_329 ⟨Or.inr (Or.inl ⟨rfl, _, rfl⟩), _, _, rfl, h⟩
                          · rw [if_neg c] at h
                            have c70 := c
                            by_cases c : r2 = (80 : Int32)
                            · rw [if_pos c] at h
                              refine jr_lookup dX0_run_50 (by decide) (off := 280) (jlk c (by decide)) (tgt := 330) (by decide) ?_
                              refine jr_aload_n dX0_run_330 rfl rfl ?_
                              refine jr_iload_n dX0_run_331 rfl rfl ?_
                              refine jr_iload dX0_run_332 rfl ?_
                              refine jr_iconst dX0_run_334 kic_1 ?_
                              refine jr_iload dX0_run_335 rfl ?_
                              refine jr_iload dX0_run_337 rfl ?_
                              refine jr_callV (mc2 := 0) (mc := 0) (ms2 := 0) (ms := 0) vm_X0_42 (av := [.int x1, .int r3, .int (1 : Int32), .int x4, .int (x5 + (1 : Int32))]) (st := []) rfl rfl ks_68 (by decide) rfl (Nat.le_of_ble_eq_true rfl) dX0_run_339 (cI_use (M := (yX0_run, cX0_run, 10, some .int)) h ?_)
                              intro r16 I16 L16 h
                              refine jr_aload_n dX0_run_342 rfl rfl ?_
                              refine jr_iload_n dX0_run_343 rfl rfl ?_
                              refine jr_iload_n dX0_run_344 rfl rfl ?_
                              refine jr_iconst dX0_run_345 kic_2 ?_
                              refine jr_iconst dX0_run_346 kic_2 ?_
                              refine jr_iload dX0_run_347 rfl ?_
                              refine jr_callV (mc2 := 0) (mc := 0) (ms2 := 0) (ms := 0) vm_X0_42 (av := [.int x1, .int x1, .int (2 : Int32), .int (2 : Int32), .int (x5 + (1 : Int32))]) (st := [.int r16]) rfl rfl ks_68 (by decide) rfl (Nat.le_of_ble_eq_true rfl) dX0_run_349 (cI_use (M := (yX0_run, cX0_run, 10, some .int)) h ?_)
                              intro r17 I17 L17 h
                              refine jr_iadd dX0_run_352 ?_
                              exact jr_ireturn dX0_run_353 ⟨Or.inr (Or.inl ⟨rfl, _, rfl⟩), _, _, rfl, h⟩
                            · rw [if_neg c] at h
                              have c80 := c
                              by_cases c : r2 = (81 : Int32)
                              · rw [if_pos c] at h
                                refine jr_lookup dX0_run_50 (by decide) (off := 304) (jlk c (by decide)) (tgt := 354) (by decide) ?_
                                refine jr_aload_n dX0_run_354 rfl rfl ?_
                                refine jr_iload_n dX0_run_355 rfl rfl ?_
                                refine jr_iload dX0_run_356 rfl ?_
                                refine jr_iconst dX0_run_358 kic_3 ?_
                                refine jr_iload dX0_run_359 rfl ?_
                                refine jr_iload dX0_run_361 rfl ?_
                                refine jr_callV (mc2 := 0) (mc := 0) (ms2 := 0) (ms := 0) vm_X0_42 (av := [.int x1, .int r3, .int (3 : Int32), .int x4, .int (x5 + (1 : Int32))]) (st := []) rfl rfl ks_68 (by decide) rfl (Nat.le_of_ble_eq_true rfl) dX0_run_363 (cI_use (M := (yX0_run, cX0_run, 10, some .int)) h ?_)
                                intro r18 I18 L18 h
                                refine jr_iconst dX0_run_366 kic_1 ?_
                                refine jr_isub dX0_run_367 ?_
                                exact jr_ireturn dX0_run_368 ⟨Or.inr (Or.inl ⟨rfl, _, rfl⟩), _, _, rfl, h⟩
                              · rw [if_neg c] at h
                                have c81 := c
                                refine jr_lookup dX0_run_50 (by decide) (off := 319) (by rw [lv_osw c1 (a := 1) rfl, lv_osw c2 (a := 2) rfl, lv_osw c10 (a := 10) rfl, lv_osw c11 (a := 11) rfl, lv_osw c20 (a := 20) rfl, lv_osw c30 (a := 30) rfl, lv_osw c40 (a := 40) rfl, lv_osw c41 (a := 41) rfl, lv_osw c50 (a := 50) rfl, lv_osw c60 (a := 60) rfl, lv_osw c70 (a := 70) rfl, lv_osw c80 (a := 80) rfl, lv_osw c81 (a := 81) rfl]; rfl) (tgt := 369) (by decide) ?_
                                refine jr_iconst dX0_run_369 kic_0 ?_
                                exact jr_ireturn dX0_run_370 ⟨Or.inr (Or.inl ⟨rfl, _, rfl⟩), _, _, rfl, h⟩
    · rw [if_neg c] at h
      refine jr_iconst dX0_run_19 kic_0 ?_
      exact jr_ireturn dX0_run_20 ⟨Or.inr (Or.inl ⟨rfl, _, rfl⟩), _, _, rfl, h⟩

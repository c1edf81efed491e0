def wX9_isEmpty (G : jG) (l : Launch) (d : Nat) (x1 : Int32) (I : jS) (L : jL) (Q : Option Value → jS → jL → Prop) : Prop := cI G l mX11_isShelf d [.int x1] I L (fun r1 I1 L1 => (if r1 = 0 then (Q (some (.int (1 : Int32))) I1 L1) else (vp_in x1 6 ∧ (if (I1 58 x1.toNatClampNeg) = (-1 : Int32) then (Q (some (.int (1 : Int32))) I1 L1) else (Q (some (.int (0 : Int32))) I1 L1)))))
set_option maxRecDepth 100000 in
set_option maxHeartbeats 4000000 in
theorem wX9_isEmpty_ok {G : jG} {l : Launch} {d : Nat} {Q : Option Value → jS → jL → Prop} {x1 : Int32} {I : jS} {L : jL} (h : wX9_isEmpty G l d x1 I L Q) : cM G l mX9_isEmpty (d + 1) [.ref 57, .int x1] I L Q := by
  rw [wX9_isEmpty] at h
  show jCall G l yX9_isEmpty cX9_isEmpty 2 (some .boolean) (d + 1) 0 0 _ (jKS, I, L, jR0) _
  refine jCall_of (n0 := 0) (ls := [some (.ref 57), some (.int x1)]) (by decide +kernel) rfl (Nat.le_of_ble_eq_true rfl) (jQm_of ?_)
  refine jr_iload_n dX9_isEmpty_0 rfl rfl ?_
  refine jr_callSN (mc2 := 0) (mc := 0) (ms2 := 0) (ms := 0) vm_X9_32 (av := [.int x1]) (st := []) rfl rfl (Nat.le_of_ble_eq_true rfl) dX9_isEmpty_1 (cI_use (M := (yX11_isShelf, cX11_isShelf, 1, some .boolean)) h ?_)
  intro r1 I1 L1 h
  refine jr_if_eq dX9_isEmpty_4 (tgt := 17) (by decide) (fun c => ?_) (fun c => ?_)
  · rw [if_pos c] at h
    refine jr_iconst dX9_isEmpty_17 kic_1 ?_
    refine jr_goto dX9_isEmpty_18 (tgt := 22) (by decide) ?_
    exact jr_ireturn dX9_isEmpty_22 ⟨Or.inr (Or.inr (Or.inr ⟨rfl, Or.inr rfl⟩)), _, _, rfl, h⟩
  · rw [if_neg c] at h
    refine jr_aload_n dX9_isEmpty_7 rfl rfl ?_
    refine jr_geta ff_X9_11 ks_57 rr_57_0 dX9_isEmpty_8 ?_
    refine jr_iload_n dX9_isEmpty_11 rfl rfl ?_
    obtain ⟨g2, h⟩ := h
    refine jv_iaload rfl rfl ks_58 dX9_isEmpty_12 g2 ?_
    refine jr_iconst dX9_isEmpty_13 kic_m1 ?_
    refine jr_icmp_ne dX9_isEmpty_14 (tgt := 21) (by decide) (fun c => ?_) (fun c => ?_)
    · rw [if_neg c] at h
      refine jr_iconst dX9_isEmpty_21 kic_0 ?_
      exact jr_ireturn dX9_isEmpty_22 ⟨Or.inr (Or.inr (Or.inr ⟨rfl, Or.inl rfl⟩)), _, _, rfl, h⟩
    · rw [if_pos c] at h
      refine jr_iconst dX9_isEmpty_17 kic_1 ?_
      refine jr_goto dX9_isEmpty_18 (tgt := 22) (by decide) ?_
      exact jr_ireturn dX9_isEmpty_22 ⟨Or.inr (Or.inr (Or.inr ⟨rfl, Or.inr rfl⟩)), _, _, rfl, h⟩
def wX9_isBytes (G : jG) (l : Launch) (d : Nat) (x1 : Int32) (I : jS) (L : jL) (Q : Option Value → jS → jL → Prop) : Prop := cI G l mX11_isShelf d [.int x1] I L (fun r1 I1 L1 => (if r1 = 0 then (Q (some (.int (0 : Int32))) I1 L1) else (vp_in x1 6 ∧ (if (I1 58 x1.toNatClampNeg) = 0 then (Q (some (.int (1 : Int32))) I1 L1) else (Q (some (.int (0 : Int32))) I1 L1)))))
set_option maxRecDepth 100000 in
set_option maxHeartbeats 4000000 in
theorem wX9_isBytes_ok {G : jG} {l : Launch} {d : Nat} {Q : Option Value → jS → jL → Prop} {x1 : Int32} {I : jS} {L : jL} (h : wX9_isBytes G l d x1 I L Q) : cM G l mX9_isBytes (d + 1) [.ref 57, .int x1] I L Q := by
  rw [wX9_isBytes] at h
  show jCall G l yX9_isBytes cX9_isBytes 2 (some .boolean) (d + 1) 0 0 _ (jKS, I, L, jR0) _
  refine jCall_of (n0 := 0) (ls := [some (.ref 57), some (.int x1)]) (by decide +kernel) rfl (Nat.le_of_ble_eq_true rfl) (jQm_of ?_)
  refine jr_iload_n dX9_isBytes_0 rfl rfl ?_
  refine jr_callSN (mc2 := 0) (mc := 0) (ms2 := 0) (ms := 0) vm_X9_32 (av := [.int x1]) (st := []) rfl rfl (Nat.le_of_ble_eq_true rfl) dX9_isBytes_1 (cI_use (M := (yX11_isShelf, cX11_isShelf, 1, some .boolean)) h ?_)
  intro r1 I1 L1 h
  refine jr_if_eq dX9_isBytes_4 (tgt := 20) (by decide) (fun c => ?_) (fun c => ?_)
  · rw [if_pos c] at h
    refine jr_iconst dX9_isBytes_20 kic_0 ?_
    exact jr_ireturn dX9_isBytes_21 ⟨Or.inr (Or.inr (Or.inr ⟨rfl, Or.inl rfl⟩)), _, _, rfl, h⟩
  · rw [if_neg c] at h
    refine jr_aload_n dX9_isBytes_7 rfl rfl ?_
    refine jr_geta ff_X9_11 ks_57 rr_57_0 dX9_isBytes_8 ?_
    refine jr_iload_n dX9_isBytes_11 rfl rfl ?_
    obtain ⟨g2, h⟩ := h
    refine jv_iaload rfl rfl ks_58 dX9_isBytes_12 g2 ?_
    refine jr_if_ne dX9_isBytes_13 (tgt := 20) (by decide) (fun c => ?_) (fun c => ?_)
    · rw [if_neg c] at h
      refine jr_iconst dX9_isBytes_20 kic_0 ?_
      exact jr_ireturn dX9_isBytes_21 ⟨Or.inr (Or.inr (Or.inr ⟨rfl, Or.inl rfl⟩)), _, _, rfl, h⟩
    · rw [if_pos c] at h
      refine jr_iconst dX9_isBytes_16 kic_1 ?_
      refine jr_goto dX9_isBytes_17 (tgt := 21) (by decide) ?_
      exact jr_ireturn dX9_isBytes_21 ⟨Or.inr (Or.inr (Or.inr ⟨rfl, Or.inr rfl⟩)), _, _, rfl, h⟩
def wX9_isRow (G : jG) (l : Launch) (d : Nat) (x1 : Int32) (I : jS) (L : jL) (Q : Option Value → jS → jL → Prop) : Prop := cI G l mX11_isShelf d [.int x1] I L (fun r1 I1 L1 => (if r1 = 0 then (Q (some (.int (0 : Int32))) I1 L1) else (vp_in x1 6 ∧ (if (I1 58 x1.toNatClampNeg) < 0 then (Q (some (.int (0 : Int32))) I1 L1) else (Q (some (.int (1 : Int32))) I1 L1)))))
set_option maxRecDepth 100000 in
set_option maxHeartbeats 4000000 in
theorem wX9_isRow_ok {G : jG} {l : Launch} {d : Nat} {Q : Option Value → jS → jL → Prop} {x1 : Int32} {I : jS} {L : jL} (h : wX9_isRow G l d x1 I L Q) : cM G l mX9_isRow (d + 1) [.ref 57, .int x1] I L Q := by
  rw [wX9_isRow] at h
  show jCall G l yX9_isRow cX9_isRow 2 (some .boolean) (d + 1) 0 0 _ (jKS, I, L, jR0) _
  refine jCall_of (n0 := 0) (ls := [some (.ref 57), some (.int x1)]) (by decide +kernel) rfl (Nat.le_of_ble_eq_true rfl) (jQm_of ?_)
  refine jr_iload_n dX9_isRow_0 rfl rfl ?_
  refine jr_callSN (mc2 := 0) (mc := 0) (ms2 := 0) (ms := 0) vm_X9_32 (av := [.int x1]) (st := []) rfl rfl (Nat.le_of_ble_eq_true rfl) dX9_isRow_1 (cI_use (M := (yX11_isShelf, cX11_isShelf, 1, some .boolean)) h ?_)
  intro r1 I1 L1 h
  refine jr_if_eq dX9_isRow_4 (tgt := 20) (by decide) (fun c => ?_) (fun c => ?_)
  · rw [if_pos c] at h
    refine jr_iconst dX9_isRow_20 kic_0 ?_
    exact jr_ireturn dX9_isRow_21 ⟨Or.inr (Or.inr (Or.inr ⟨rfl, Or.inl rfl⟩)), _, _, rfl, h⟩
  · rw [if_neg c] at h
    refine jr_aload_n dX9_isRow_7 rfl rfl ?_
    refine jr_geta ff_X9_11 ks_57 rr_57_0 dX9_isRow_8 ?_
    refine jr_iload_n dX9_isRow_11 rfl rfl ?_
    obtain ⟨g2, h⟩ := h
    refine jv_iaload rfl rfl ks_58 dX9_isRow_12 g2 ?_
    refine jr_if_lt dX9_isRow_13 (tgt := 20) (by decide) (fun c => ?_) (fun c => ?_)
    · rw [if_pos c] at h
      refine jr_iconst dX9_isRow_20 kic_0 ?_
      exact jr_ireturn dX9_isRow_21 ⟨Or.inr (Or.inr (Or.inr ⟨rfl, Or.inl rfl⟩)), _, _, rfl, h⟩
    · rw [if_neg c] at h
      refine jr_iconst dX9_isRow_16 kic_1 ?_
      refine jr_goto dX9_isRow_17 (tgt := 21) (by decide) ?_
      exact jr_ireturn dX9_isRow_21 ⟨Or.inr (Or.inr (Or.inr ⟨rfl, Or.inr rfl⟩)), _, _, rfl, h⟩
def wX9_sizeOf (G : jG) (l : Launch) (d : Nat) (x1 : Int32) (I : jS) (L : jL) (Q : Option Value → jS → jL → Prop) : Prop := cI G l mX11_isShelf d [.int x1] I L (fun r1 I1 L1 => (if r1 = 0 then (Q (some (.int (0 : Int32))) I1 L1) else (vp_in x1 6 ∧ (Q (some (.int (I1 59 x1.toNatClampNeg))) I1 L1))))
set_option maxRecDepth 100000 in
set_option maxHeartbeats 4000000 in
theorem wX9_sizeOf_ok {G : jG} {l : Launch} {d : Nat} {Q : Option Value → jS → jL → Prop} {x1 : Int32} {I : jS} {L : jL} (h : wX9_sizeOf G l d x1 I L Q) : cM G l mX9_sizeOf (d + 1) [.ref 57, .int x1] I L Q := by
  rw [wX9_sizeOf] at h
  show jCall G l yX9_sizeOf cX9_sizeOf 2 (some .int) (d + 1) 0 0 _ (jKS, I, L, jR0) _
  refine jCall_of (n0 := 0) (ls := [some (.ref 57), some (.int x1)]) (by decide +kernel) rfl (Nat.le_of_ble_eq_true rfl) (jQm_of ?_)
  refine jr_iload_n dX9_sizeOf_0 rfl rfl ?_
  refine jr_callSN (mc2 := 0) (mc := 0) (ms2 := 0) (ms := 0) vm_X9_32 (av := [.int x1]) (st := []) rfl rfl (Nat.le_of_ble_eq_true rfl) dX9_sizeOf_1 (cI_use (M := (yX11_isShelf, cX11_isShelf, 1, some .boolean)) h ?_)
  intro r1 I1 L1 h
  refine jr_if_eq dX9_sizeOf_4 (tgt := 16) (by decide) (fun c => ?_) (fun c => ?_)
  · rw [if_pos c] at h
    refine jr_iconst dX9_sizeOf_16 kic_0 ?_
    exact jr_ireturn dX9_sizeOf_17 ⟨Or.inr (Or.inl ⟨rfl, _, rfl⟩), _, _, rfl, h⟩
  · rw [if_neg c] at h
    refine jr_aload_n dX9_sizeOf_7 rfl rfl ?_
    refine jr_geta ff_X9_15 ks_57 rr_57_1 dX9_sizeOf_8 ?_
    refine jr_iload_n dX9_sizeOf_11 rfl rfl ?_
    obtain ⟨g2, h⟩ := h
    refine jv_iaload rfl rfl ks_59 dX9_sizeOf_12 g2 ?_
    refine jr_goto dX9_sizeOf_13 (tgt := 17) (by decide) ?_
    exact jr_ireturn dX9_sizeOf_17 ⟨Or.inr (Or.inl ⟨rfl, _, rfl⟩), _, _, rfl, h⟩
def wX9_bodyOn (G : jG) (l : Launch) (d : Nat) (x1 : Int32) (I : jS) (L : jL) (Q : Option Value → jS → jL → Prop) : Prop := cI G l mX11_isShelf d [.int x1] I L (fun r1 I1 L1 => (if r1 = 0 then (Q (some (.int (-1 : Int32))) I1 L1) else (vp_in x1 6 ∧ (Q (some (.int (I1 60 x1.toNatClampNeg))) I1 L1))))
set_option maxRecDepth 100000 in
set_option maxHeartbeats 4000000 in
theorem wX9_bodyOn_ok {G : jG} {l : Launch} {d : Nat} {Q : Option Value → jS → jL → Prop} {x1 : Int32} {I : jS} {L : jL} (h : wX9_bodyOn G l d x1 I L Q) : cM G l mX9_bodyOn (d + 1) [.ref 57, .int x1] I L Q := by
  rw [wX9_bodyOn] at h
  show jCall G l yX9_bodyOn cX9_bodyOn 2 (some .int) (d + 1) 0 0 _ (jKS, I, L, jR0) _
  refine jCall_of (n0 := 0) (ls := [some (.ref 57), some (.int x1)]) (by decide +kernel) rfl (Nat.le_of_ble_eq_true rfl) (jQm_of ?_)
  refine jr_iload_n dX9_bodyOn_0 rfl rfl ?_
  refine jr_callSN (mc2 := 0) (mc := 0) (ms2 := 0) (ms := 0) vm_X9_32 (av := [.int x1]) (st := []) rfl rfl (Nat.le_of_ble_eq_true rfl) dX9_bodyOn_1 (cI_use (M := (yX11_isShelf, cX11_isShelf, 1, some .boolean)) h ?_)
  intro r1 I1 L1 h
  refine jr_if_eq dX9_bodyOn_4 (tgt := 16) (by decide) (fun c => ?_) (fun c => ?_)
  · rw [if_pos c] at h
    refine jr_iconst dX9_bodyOn_16 kic_m1 ?_
    exact jr_ireturn dX9_bodyOn_17 ⟨Or.inr (Or.inl ⟨rfl, _, rfl⟩), _, _, rfl, h⟩
  · rw [if_neg c] at h
    refine jr_aload_n dX9_bodyOn_7 rfl rfl ?_
    refine jr_geta ff_X9_18 ks_57 rr_57_2 dX9_bodyOn_8 ?_
    refine jr_iload_n dX9_bodyOn_11 rfl rfl ?_
    obtain ⟨g2, h⟩ := h
    refine jv_iaload rfl rfl ks_60 dX9_bodyOn_12 g2 ?_
    refine jr_goto dX9_bodyOn_13 (tgt := 17) (by decide) ?_
    exact jr_ireturn dX9_bodyOn_17 ⟨Or.inr (Or.inl ⟨rfl, _, rfl⟩), _, _, rfl, h⟩
def wX9_bytesRefusal (G : jG) (l : Launch) (d : Nat) (x1 : Int32) (I : jS) (L : jL) (Q : Option Value → jS → jL → Prop) : Prop := cI G l mX9_isEmpty d [.ref 57, .int x1] I L (fun r1 I1 L1 => (if r1 = 0 then (cI G l mX9_isBytes d [.ref 57, .int x1] I1 L1 (fun r2 I2 L2 => (if r2 = 0 then (Q (some (.int (-12 : Int32))) I2 L2) else (Q (some (.int (0 : Int32))) I2 L2)))) else (Q (some (.int (-11 : Int32))) I1 L1)))
set_option maxRecDepth 100000 in
set_option maxHeartbeats 4000000 in
theorem wX9_bytesRefusal_ok {G : jG} {l : Launch} {d : Nat} {Q : Option Value → jS → jL → Prop} {x1 : Int32} {I : jS} {L : jL} (h : wX9_bytesRefusal G l d x1 I L Q) : cM G l mX9_bytesRefusal (d + 1) [.ref 57, .int x1] I L Q := by
  rw [wX9_bytesRefusal] at h
  show jCall G l yX9_bytesRefusal cX9_bytesRefusal 2 (some .int) (d + 1) 0 0 _ (jKS, I, L, jR0) _
  refine jCall_of (n0 := 0) (ls := [some (.ref 57), some (.int x1)]) (by decide +kernel) rfl (Nat.le_of_ble_eq_true rfl) (jQm_of ?_)
  refine jr_aload_n dX9_bytesRefusal_0 rfl rfl ?_
  refine jr_iload_n dX9_bytesRefusal_1 rfl rfl ?_
  refine jr_callV (mc2 := 0) (mc := 0) (ms2 := 0) (ms := 0) vm_X9_36 (av := [.int x1]) (st := []) rfl rfl ks_57 (by decide) rfl (Nat.le_of_ble_eq_true rfl) dX9_bytesRefusal_2 (cI_use (M := (yX9_isEmpty, cX9_isEmpty, 2, some .boolean)) h ?_)
  intro r1 I1 L1 h
  refine jr_if_eq dX9_bytesRefusal_5 (tgt := 11) (by decide) (fun c => ?_) (fun c => ?_)
  · rw [if_pos c] at h
    refine jr_aload_n dX9_bytesRefusal_11 rfl rfl ?_
    refine jr_iload_n dX9_bytesRefusal_12 rfl rfl ?_
    refine jr_callV (mc2 := 0) (mc := 0) (ms2 := 0) (ms := 0) vm_X9_39 (av := [.int x1]) (st := []) rfl rfl ks_57 (by decide) rfl (Nat.le_of_ble_eq_true rfl) dX9_bytesRefusal_13 (cI_use (M := (yX9_isBytes, cX9_isBytes, 2, some .boolean)) h ?_)
    intro r2 I2 L2 h
    refine jr_if_eq dX9_bytesRefusal_16 (tgt := 23) (by decide) (fun c => ?_) (fun c => ?_)
    · rw [if_pos c] at h
      refine jr_bipush dX9_bytesRefusal_23 kbp_m12 ?_
      exact jr_ireturn dX9_bytesRefusal_25 ⟨Or.inr (Or.inl ⟨rfl, _, rfl⟩), _, _, rfl, h⟩
    · rw [if_neg c] at h
      refine jr_iconst dX9_bytesRefusal_19 kic_0 ?_
      refine jr_goto dX9_bytesRefusal_20 (tgt := 25) (by decide) ?_
      exact jr_ireturn dX9_bytesRefusal_25 ⟨Or.inr (Or.inl ⟨rfl, _, rfl⟩), _, _, rfl, h⟩
  · rw [if_neg c] at h
    refine jr_bipush dX9_bytesRefusal_8 kbp_m11 ?_
    exact jr_ireturn dX9_bytesRefusal_10 ⟨Or.inr (Or.inl ⟨rfl, _, rfl⟩), _, _, rfl, h⟩
def wX9_placeRefusal (G : jG) (l : Launch) (d : Nat) (x1 : Int32) (x2 : Int32) (I : jS) (L : jL) (Q : Option Value → jS → jL → Prop) : Prop := cI G l mX9_isEmpty d [.ref 57, .int x1] I L (fun r1 I1 L1 => (if r1 = 0 then (cI G l mX9_isRow d [.ref 57, .int x1] I1 L1 (fun r2 I2 L2 => (if r2 = 0 then (Q (some (.int (-12 : Int32))) I2 L2) else (if x2 < 0 then (Q (some (.int (-13 : Int32))) I2 L2) else (cI G l mX9_sizeOf d [.ref 57, .int x1] I2 L2 (fun r3 I3 L3 => (if r3 ≤ x2 then (Q (some (.int (-13 : Int32))) I3 L3) else (Q (some (.int (0 : Int32))) I3 L3)))))))) else (Q (some (.int (-11 : Int32))) I1 L1)))
set_option maxRecDepth 100000 in
set_option maxHeartbeats 4000000 in
theorem wX9_placeRefusal_ok {G : jG} {l : Launch} {d : Nat} {Q : Option Value → jS → jL → Prop} {x1 : Int32} {x2 : Int32} {I : jS} {L : jL} (h : wX9_placeRefusal G l d x1 x2 I L Q) : cM G l mX9_placeRefusal (d + 1) [.ref 57, .int x1, .int x2] I L Q := by
  rw [wX9_placeRefusal] at h
  show jCall G l yX9_placeRefusal cX9_placeRefusal 3 (some .int) (d + 1) 0 0 _ (jKS, I, L, jR0) _
  refine jCall_of (n0 := 0) (ls := [some (.ref 57), some (.int x1), some (.int x2)]) (by decide +kernel) rfl (Nat.le_of_ble_eq_true rfl) (jQm_of ?_)
  refine jr_aload_n dX9_placeRefusal_0 rfl rfl ?_
  refine jr_iload_n dX9_placeRefusal_1 rfl rfl ?_
  refine jr_callV (mc2 := 0) (mc := 0) (ms2 := 0) (ms := 0) vm_X9_36 (av := [.int x1]) (st := []) rfl rfl ks_57 (by decide) rfl (Nat.le_of_ble_eq_true rfl) dX9_placeRefusal_2 (cI_use (M := (yX9_isEmpty, cX9_isEmpty, 2, some .boolean)) h ?_)
  intro r1 I1 L1 h
  refine jr_if_eq dX9_placeRefusal_5 (tgt := 11) (by decide) (fun c => ?_) (fun c => ?_)
  · rw [if_pos c] at h
    refine jr_aload_n dX9_placeRefusal_11 rfl rfl ?_
    refine jr_iload_n dX9_placeRefusal_12 rfl rfl ?_
    refine jr_callV (mc2 := 0) (mc := 0) (ms2 := 0) (ms := 0) vm_X9_42 (av := [.int x1]) (st := []) rfl rfl ks_57 (by decide) rfl (Nat.le_of_ble_eq_true rfl) dX9_placeRefusal_13 (cI_use (M := (yX9_isRow, cX9_isRow, 2, some .boolean)) h ?_)
    intro r2 I2 L2 h
    refine jr_if_ne dX9_placeRefusal_16 (tgt := 22) (by decide) (fun c => ?_) (fun c => ?_)
    · rw [if_neg c] at h
      refine jr_iload_n dX9_placeRefusal_22 rfl rfl ?_
      refine jr_if_lt dX9_placeRefusal_23 (tgt := 39) (by decide) (fun c => ?_) (fun c => ?_)
      · rw [if_pos c] at h
        refine jr_bipush dX9_placeRefusal_39 kbp_m13 ?_
        exact jr_ireturn dX9_placeRefusal_41 ⟨Or.inr (Or.inl ⟨rfl, _, rfl⟩), _, _, rfl, h⟩
      · rw [if_neg c] at h
        refine jr_iload_n dX9_placeRefusal_26 rfl rfl ?_
        refine jr_aload_n dX9_placeRefusal_27 rfl rfl ?_
        refine jr_iload_n dX9_placeRefusal_28 rfl rfl ?_
        refine jr_callV (mc2 := 0) (mc := 0) (ms2 := 0) (ms := 0) vm_X9_45 (av := [.int x1]) (st := [.int x2]) rfl rfl ks_57 (by decide) rfl (Nat.le_of_ble_eq_true rfl) dX9_placeRefusal_29 (cI_use (M := (yX9_sizeOf, cX9_sizeOf, 2, some .int)) h ?_)
        intro r3 I3 L3 h
        refine jr_icmp_ge dX9_placeRefusal_32 (tgt := 39) (by decide) (fun c => ?_) (fun c => ?_)
        · rw [if_pos c] at h
          refine jr_bipush dX9_placeRefusal_39 kbp_m13 ?_
          exact jr_ireturn dX9_placeRefusal_41 ⟨Or.inr (Or.inl ⟨rfl, _, rfl⟩), _, _, rfl, h⟩
        · rw [if_neg c] at h
          refine jr_iconst dX9_placeRefusal_35 kic_0 ?_
          refine jr_goto dX9_placeRefusal_36 (tgt := 41) (by decide) ?_
          exact jr_ireturn dX9_placeRefusal_41 ⟨Or.inr (Or.inl ⟨rfl, _, rfl⟩), _, _, rfl, h⟩
    · rw [if_pos c] at h
      refine jr_bipush dX9_placeRefusal_19 kbp_m12 ?_
      exact jr_ireturn dX9_placeRefusal_21 ⟨Or.inr (Or.inl ⟨rfl, _, rfl⟩), _, _, rfl, h⟩
  · rw [if_neg c] at h
    refine jr_bipush dX9_placeRefusal_8 kbp_m11 ?_
    exact jr_ireturn dX9_placeRefusal_10 ⟨Or.inr (Or.inl ⟨rfl, _, rfl⟩), _, _, rfl, h⟩
def wX9_holdBody_38 (G : jG) (l : Launch) (d : Nat) (Q : Option Value → jS → jL → Prop) (x1 : Int32) (t1 : Int32) (t2 : Int32) (I : jS) (L : jL) : Prop := vp_in t1 6 ∧ (vp_in x1 6 ∧ (Q none (u2 (u2 I 60 t1.toNatClampNeg t2) 59 x1.toNatClampNeg (0 : Int32)) L))
set_option maxRecDepth 100000 in
set_option maxHeartbeats 4000000 in
theorem wX9_holdBody_38_ok {G : jG} {l : Launch} {d : Nat} {Q : Option Value → jS → jL → Prop} : ∀ (x1 : Int32) (t1 : Int32) (t2 : Int32) (I : jS) (L : jL), wX9_holdBody_38 G l d Q x1 t1 t2 I L → J G l yX9_holdBody cX9_holdBody 3 (d + 1) 0 0 38 [some (.ref 57), some (.int x1), none] [.int t2, .int t1, .ref 60] (jKS, I, L, jR0) (jQm (none) Q) := by
  intro x1 t1 t2 I L h
  rw [wX9_holdBody_38] at h
  obtain ⟨g1, h⟩ := h
  refine jr_iastore rfl ks_60 dX9_holdBody_38 g1 ?_
  refine jr_aload_n dX9_holdBody_39 rfl rfl ?_
  refine jr_geta ff_X9_15 ks_57 rr_57_1 dX9_holdBody_40 ?_
  refine jr_iload_n dX9_holdBody_43 rfl rfl ?_
  refine jr_iconst dX9_holdBody_44 kic_0 ?_
  obtain ⟨g2, h⟩ := h
  refine jr_iastore rfl ks_59 dX9_holdBody_45 g2 ?_
  exact jr_return dX9_holdBody_46 ⟨Or.inl ⟨rfl, rfl⟩, _, _, rfl, h⟩
def wX9_holdBody_23 (G : jG) (l : Launch) (d : Nat) (Q : Option Value → jS → jL → Prop) (x1 : Int32) (x2 : Int32) (t1 : Int32) (t2 : Int32) (I : jS) (L : jL) : Prop := vp_in t1 6 ∧ (if 0 ≤ x2 then (wX9_holdBody_38 G l d Q x1 x1 x2 (u2 I 58 t1.toNatClampNeg t2) L) else (wX9_holdBody_38 G l d Q x1 x1 (-1 : Int32) (u2 I 58 t1.toNatClampNeg t2) L))
set_option maxRecDepth 100000 in
set_option maxHeartbeats 4000000 in
theorem wX9_holdBody_23_ok {G : jG} {l : Launch} {d : Nat} {Q : Option Value → jS → jL → Prop} : ∀ (x1 : Int32) (x2 : Int32) (t1 : Int32) (t2 : Int32) (I : jS) (L : jL), wX9_holdBody_23 G l d Q x1 x2 t1 t2 I L → J G l yX9_holdBody cX9_holdBody 3 (d + 1) 0 0 23 [some (.ref 57), some (.int x1), some (.int x2)] [.int t2, .int t1, .ref 58] (jKS, I, L, jR0) (jQm (none) Q) := by
  intro x1 x2 t1 t2 I L h
  rw [wX9_holdBody_23] at h
  obtain ⟨g1, h⟩ := h
  refine jr_iastore rfl ks_58 dX9_holdBody_23 g1 ?_
  refine jr_aload_n dX9_holdBody_24 rfl rfl ?_
  refine jr_geta ff_X9_18 ks_57 rr_57_2 dX9_holdBody_25 ?_
  refine jr_iload_n dX9_holdBody_28 rfl rfl ?_
  refine jr_iload_n dX9_holdBody_29 rfl rfl ?_
  refine jr_if_ge dX9_holdBody_30 (tgt := 37) (by decide) (fun c => ?_) (fun c => ?_)
  · rw [if_pos c] at h
    refine jr_iload_n dX9_holdBody_37 rfl rfl ?_
    exact J.sub (wX9_holdBody_38_ok  _ _ _ _ _ h) (jsub_some (jsub_some (jsub_none jsub_nil)))
  · rw [if_neg c] at h
    refine jr_iconst dX9_holdBody_33 kic_m1 ?_
    refine jr_goto dX9_holdBody_34 (tgt := 38) (by decide) ?_
    exact J.sub (wX9_holdBody_38_ok  _ _ _ _ _ h) (jsub_some (jsub_some (jsub_none jsub_nil)))
def wX9_holdBody (G : jG) (l : Launch) (d : Nat) (x1 : Int32) (x2 : Int32) (I : jS) (L : jL) (Q : Option Value → jS → jL → Prop) : Prop := cI G l mX11_isShelf d [.int x1] I L (fun r1 I1 L1 => (if r1 = 0 then (Q none I1 L1) else (if 0 ≤ x2 then (wX9_holdBody_23 G l d Q x1 x2 x1 (-2 : Int32) I1 L1) else (wX9_holdBody_23 G l d Q x1 x2 x1 (-1 : Int32) I1 L1))))
set_option maxRecDepth 100000 in
set_option maxHeartbeats 4000000 in
theorem wX9_holdBody_ok {G : jG} {l : Launch} {d : Nat} {Q : Option Value → jS → jL → Prop} {x1 : Int32} {x2 : Int32} {I : jS} {L : jL} (h : wX9_holdBody G l d x1 x2 I L Q) : cM G l mX9_holdBody (d + 1) [.ref 57, .int x1, .int x2] I L Q := by
  rw [wX9_holdBody] at h
  show jCall G l yX9_holdBody cX9_holdBody 3 (none) (d + 1) 0 0 _ (jKS, I, L, jR0) _
  refine jCall_of (n0 := 0) (ls := [some (.ref 57), some (.int x1), some (.int x2)]) (by decide +kernel) rfl (Nat.le_of_ble_eq_true rfl) (jQm_of ?_)
  refine jr_iload_n dX9_holdBody_0 rfl rfl ?_
  refine jr_callSN (mc2 := 0) (mc := 0) (ms2 := 0) (ms := 0) vm_X9_32 (av := [.int x1]) (st := []) rfl rfl (Nat.le_of_ble_eq_true rfl) dX9_holdBody_1 (cI_use (M := (yX11_isShelf, cX11_isShelf, 1, some .boolean)) h ?_)
  intro r1 I1 L1 h
  refine jr_if_ne dX9_holdBody_4 (tgt := 8) (by decide) (fun c => ?_) (fun c => ?_)
  · rw [if_neg c] at h
    refine jr_aload_n dX9_holdBody_8 rfl rfl ?_
    refine jr_geta ff_X9_11 ks_57 rr_57_0 dX9_holdBody_9 ?_
    refine jr_iload_n dX9_holdBody_12 rfl rfl ?_
    refine jr_iload_n dX9_holdBody_13 rfl rfl ?_
    refine jr_if_ge dX9_holdBody_14 (tgt := 21) (by decide) (fun c => ?_) (fun c => ?_)
    · rw [if_pos c] at h
      refine jr_bipush dX9_holdBody_21 kbp_m2 ?_
      exact J.sub (wX9_holdBody_23_ok  _ _ _ _ _ _ h) (jsub_some (jsub_some (jsub_some jsub_nil)))
    · rw [if_neg c] at h
      refine jr_iconst dX9_holdBody_17 kic_m1 ?_
      refine jr_goto dX9_holdBody_18 (tgt := 23) (by decide) ?_
      exact J.sub (wX9_holdBody_23_ok  _ _ _ _ _ _ h) (jsub_some (jsub_some (jsub_some jsub_nil)))
  · rw [if_pos c] at h
    exact jr_return dX9_holdBody_7 ⟨Or.inl ⟨rfl, rfl⟩, _, _, rfl, h⟩
def wX9_holdRow (G : jG) (l : Launch) (d : Nat) (x1 : Int32) (x2 : Int32) (x3 : Int32) (I : jS) (L : jL) (Q : Option Value → jS → jL → Prop) : Prop := cI G l mX11_isShelf d [.int x1] I L (fun r1 I1 L1 => (if r1 = 0 then (Q none I1 L1) else (if x3 < 0 then (Q none I1 L1) else (if x3 ≤ (60 : Int32) then (vp_in x1 6 ∧ (vp_in x1 6 ∧ (cV G l mJ7_fill_d0a16 d [.ref (62 + x1.toNatClampNeg), .long (0 : Int64)] (u2 (u2 (u2 I1 58 x1.toNatClampNeg x2) 60 x1.toNatClampNeg (-1 : Int32)) 59 x1.toNatClampNeg x3) L1 (fun I4 L4 => (Q none I4 L4))))) else (Q none I1 L1)))))
set_option maxRecDepth 100000 in
set_option maxHeartbeats 4000000 in
theorem wX9_holdRow_ok {G : jG} {l : Launch} {d : Nat} {Q : Option Value → jS → jL → Prop} {x1 : Int32} {x2 : Int32} {x3 : Int32} {I : jS} {L : jL} (h : wX9_holdRow G l d x1 x2 x3 I L Q) : cM G l mX9_holdRow (d + 1) [.ref 57, .int x1, .int x2, .int x3] I L Q := by
  rw [wX9_holdRow] at h
  show jCall G l yX9_holdRow cX9_holdRow 4 (none) (d + 1) 0 0 _ (jKS, I, L, jR0) _
  refine jCall_of (n0 := 0) (ls := [some (.ref 57), some (.int x1), some (.int x2), some (.int x3)]) (by decide +kernel) rfl (Nat.le_of_ble_eq_true rfl) (jQm_of ?_)
  refine jr_iload_n dX9_holdRow_0 rfl rfl ?_
  refine jr_callSN (mc2 := 0) (mc := 0) (ms2 := 0) (ms := 0) vm_X9_32 (av := [.int x1]) (st := []) rfl rfl (Nat.le_of_ble_eq_true rfl) dX9_holdRow_1 (cI_use (M := (yX11_isShelf, cX11_isShelf, 1, some .boolean)) h ?_)
  intro r1 I1 L1 h
  refine jr_if_eq dX9_holdRow_4 (tgt := 17) (by decide) (fun c => ?_) (fun c => ?_)
  · rw [if_pos c] at h
    exact jr_return dX9_holdRow_17 ⟨Or.inl ⟨rfl, rfl⟩, _, _, rfl, h⟩
  · rw [if_neg c] at h
    refine jr_iload_n dX9_holdRow_7 rfl rfl ?_
    refine jr_if_lt dX9_holdRow_8 (tgt := 17) (by decide) (fun c => ?_) (fun c => ?_)
    · rw [if_pos c] at h
      exact jr_return dX9_holdRow_17 ⟨Or.inl ⟨rfl, rfl⟩, _, _, rfl, h⟩
    · rw [if_neg c] at h
      refine jr_iload_n dX9_holdRow_11 rfl rfl ?_
      refine jr_bipush dX9_holdRow_12 kbp_60 ?_
      refine jr_icmp_le dX9_holdRow_14 (tgt := 18) (by decide) (fun c => ?_) (fun c => ?_)
      · rw [if_pos c] at h
        refine jr_aload_n dX9_holdRow_18 rfl rfl ?_
        refine jr_geta ff_X9_11 ks_57 rr_57_0 dX9_holdRow_19 ?_
        refine jr_iload_n dX9_holdRow_22 rfl rfl ?_
        refine jr_iload_n dX9_holdRow_23 rfl rfl ?_
        obtain ⟨g2, h⟩ := h
        refine jr_iastore rfl ks_58 dX9_holdRow_24 g2 ?_
        refine jr_aload_n dX9_holdRow_25 rfl rfl ?_
        refine jr_geta ff_X9_18 ks_57 rr_57_2 dX9_holdRow_26 ?_
        refine jr_iload_n dX9_holdRow_29 rfl rfl ?_
        refine jr_iconst dX9_holdRow_30 kic_m1 ?_
        refine jr_iastore rfl ks_60 dX9_holdRow_31 g2 ?_
        refine jr_aload_n dX9_holdRow_32 rfl rfl ?_
        refine jr_geta ff_X9_15 ks_57 rr_57_1 dX9_holdRow_33 ?_
        refine jr_iload_n dX9_holdRow_36 rfl rfl ?_
        refine jr_iload_n dX9_holdRow_37 rfl rfl ?_
        refine jr_iastore rfl ks_59 dX9_holdRow_38 g2 ?_
        refine jr_aload_n dX9_holdRow_39 rfl rfl ?_
        refine jr_geta ff_X9_23 ks_57 rr_57_3 dX9_holdRow_40 ?_
        refine jr_iload_n dX9_holdRow_43 rfl rfl ?_
        obtain ⟨g3, h⟩ := h
        refine jr_aaload_l rfl ks_61 dX9_holdRow_44 g3 (rr_row61 (jlt g3)) ?_
        refine jr_lconst dX9_holdRow_45 klc_0 ?_
        refine jr_callS (mc2 := 0) (mc := 0) (ms2 := 0) (ms := 0) vm_X9_49 (av := [.ref (62 + x1.toNatClampNeg), .long (0 : Int64)]) (st := []) rfl rfl (Nat.le_of_ble_eq_true rfl) dX9_holdRow_46 (cV_use (M := (yJ7_fill_d0a16, cJ7_fill_d0a16, 5, none)) h ?_)
        intro I4 L4 h
        exact jr_return dX9_holdRow_49 ⟨Or.inl ⟨rfl, rfl⟩, _, _, rfl, h⟩
      · rw [if_neg c] at h
        exact jr_return dX9_holdRow_17 ⟨Or.inl ⟨rfl, rfl⟩, _, _, rfl, h⟩
def wX9_get (G : jG) (l : Launch) (d : Nat) (x1 : Int32) (x2 : Int32) (I : jS) (L : jL) (Q : Option Value → jS → jL → Prop) : Prop := cI G l mX11_isShelf d [.int x1] I L (fun r1 I1 L1 => (if r1 = 0 then (Q (some (.long (0 : Int64))) I1 L1) else (if x2 < 0 then (Q (some (.long (0 : Int64))) I1 L1) else (if (60 : Int32) ≤ x2 then (Q (some (.long (0 : Int64))) I1 L1) else (vp_in x1 6 ∧ (vp_in x2 60 ∧ (Q (some (.long (L1 (62 + x1.toNatClampNeg) x2.toNatClampNeg))) I1 L1)))))))
set_option maxRecDepth 100000 in
set_option maxHeartbeats 4000000 in
theorem wX9_get_ok {G : jG} {l : Launch} {d : Nat} {Q : Option Value → jS → jL → Prop} {x1 : Int32} {x2 : Int32} {I : jS} {L : jL} (h : wX9_get G l d x1 x2 I L Q) : cM G l mX9_get (d + 1) [.ref 57, .int x1, .int x2] I L Q := by
  rw [wX9_get] at h
  show jCall G l yX9_get cX9_get 3 (some .long) (d + 1) 0 0 _ (jKS, I, L, jR0) _
  refine jCall_of (n0 := 0) (ls := [some (.ref 57), some (.int x1), some (.int x2)]) (by decide +kernel) rfl (Nat.le_of_ble_eq_true rfl) (jQm_of ?_)
  refine jr_iload_n dX9_get_0 rfl rfl ?_
  refine jr_callSN (mc2 := 0) (mc := 0) (ms2 := 0) (ms := 0) vm_X9_32 (av := [.int x1]) (st := []) rfl rfl (Nat.le_of_ble_eq_true rfl) dX9_get_1 (cI_use (M := (yX11_isShelf, cX11_isShelf, 1, some .boolean)) h ?_)
  intro r1 I1 L1 h
  refine jr_if_eq dX9_get_4 (tgt := 28) (by decide) (fun c => ?_) (fun c => ?_)
  · rw [if_pos c] at h
    refine jr_lconst dX9_get_28 klc_0 ?_
    exact jr_lreturn dX9_get_29 ⟨Or.inr (Or.inr (Or.inl ⟨rfl, _, rfl⟩)), _, _, rfl, h⟩
  · rw [if_neg c] at h
    refine jr_iload_n dX9_get_7 rfl rfl ?_
    refine jr_if_lt dX9_get_8 (tgt := 28) (by decide) (fun c => ?_) (fun c => ?_)
    · rw [if_pos c] at h
      refine jr_lconst dX9_get_28 klc_0 ?_
      exact jr_lreturn dX9_get_29 ⟨Or.inr (Or.inr (Or.inl ⟨rfl, _, rfl⟩)), _, _, rfl, h⟩
    · rw [if_neg c] at h
      refine jr_iload_n dX9_get_11 rfl rfl ?_
      refine jr_bipush dX9_get_12 kbp_60 ?_
      refine jr_icmp_ge dX9_get_14 (tgt := 28) (by decide) (fun c => ?_) (fun c => ?_)
      · rw [if_pos c] at h
        refine jr_lconst dX9_get_28 klc_0 ?_
        exact jr_lreturn dX9_get_29 ⟨Or.inr (Or.inr (Or.inl ⟨rfl, _, rfl⟩)), _, _, rfl, h⟩
      · rw [if_neg c] at h
        refine jr_aload_n dX9_get_17 rfl rfl ?_
        refine jr_geta ff_X9_23 ks_57 rr_57_3 dX9_get_18 ?_
        refine jr_iload_n dX9_get_21 rfl rfl ?_
        obtain ⟨g2, h⟩ := h
        refine jr_aaload_l rfl ks_61 dX9_get_22 g2 (rr_row61 (jlt g2)) ?_
        refine jr_iload_n dX9_get_23 rfl rfl ?_
        obtain ⟨g3, h⟩ := h
        refine jv_laload rfl rfl (ks_row61 (jlt g2)) dX9_get_24 g3 ?_
        refine jr_goto dX9_get_25 (tgt := 29) (by decide) ?_
        exact jr_lreturn dX9_get_29 ⟨Or.inr (Or.inr (Or.inl ⟨rfl, _, rfl⟩)), _, _, rfl, h⟩
def wX9_byteAt (G : jG) (l : Launch) (d : Nat) (x1 : Int32) (x2 : Int32) (I : jS) (L : jL) (Q : Option Value → jS → jL → Prop) : Prop := cJ G l mX9_get d [.ref 57, .int x1, .int x2] I L (fun r1 I1 L1 => (Q (some (.int (r1.toInt32))) I1 L1))
set_option maxRecDepth 100000 in
set_option maxHeartbeats 4000000 in
theorem wX9_byteAt_ok {G : jG} {l : Launch} {d : Nat} {Q : Option Value → jS → jL → Prop} {x1 : Int32} {x2 : Int32} {I : jS} {L : jL} (h : wX9_byteAt G l d x1 x2 I L Q) : cM G l mX9_byteAt (d + 1) [.ref 57, .int x1, .int x2] I L Q := by
  rw [wX9_byteAt] at h
  show jCall G l yX9_byteAt cX9_byteAt 3 (some .int) (d + 1) 0 0 _ (jKS, I, L, jR0) _
  refine jCall_of (n0 := 0) (ls := [some (.ref 57), some (.int x1), some (.int x2)]) (by decide +kernel) rfl (Nat.le_of_ble_eq_true rfl) (jQm_of ?_)
  refine jr_aload_n dX9_byteAt_0 rfl rfl ?_
  refine jr_iload_n dX9_byteAt_1 rfl rfl ?_
  refine jr_iload_n dX9_byteAt_2 rfl rfl ?_
  refine jr_callV (mc2 := 0) (mc := 0) (ms2 := 0) (ms := 0) vm_X9_52 (av := [.int x1, .int x2]) (st := []) rfl rfl ks_57 (by decide) rfl (Nat.le_of_ble_eq_true rfl) dX9_byteAt_3 (cJ_use (M := (yX9_get, cX9_get, 3, some .long)) h ?_)
  intro r1 I1 L1 h
  refine jr_l2i dX9_byteAt_6 ?_
  exact jr_ireturn dX9_byteAt_7 ⟨Or.inr (Or.inl ⟨rfl, _, rfl⟩), _, _, rfl, h⟩
def wX9_set (G : jG) (l : Launch) (d : Nat) (x1 : Int32) (x2 : Int32) (y3 : Int64) (I : jS) (L : jL) (Q : Option Value → jS → jL → Prop) : Prop := cI G l mX11_isShelf d [.int x1] I L (fun r1 I1 L1 => (if r1 = 0 then (Q none I1 L1) else (if x2 < 0 then (Q none I1 L1) else (if (60 : Int32) ≤ x2 then (Q none I1 L1) else (vp_in x1 6 ∧ (vp_in x1 6 ∧ (cJ G l mX9_fitted d [.int (I1 58 x1.toNatClampNeg), .long y3] I1 L1 (fun r4 I4 L4 => (vp_in x2 60 ∧ (Q none I4 (u2L L4 (62 + x1.toNatClampNeg) x2.toNatClampNeg r4)))))))))))
set_option maxRecDepth 100000 in
set_option maxHeartbeats 4000000 in
theorem wX9_set_ok {G : jG} {l : Launch} {d : Nat} {Q : Option Value → jS → jL → Prop} {x1 : Int32} {x2 : Int32} {y3 : Int64} {I : jS} {L : jL} (h : wX9_set G l d x1 x2 y3 I L Q) : cM G l mX9_set (d + 1) [.ref 57, .int x1, .int x2, .long y3] I L Q := by
  rw [wX9_set] at h
  show jCall G l yX9_set cX9_set 5 (none) (d + 1) 0 0 _ (jKS, I, L, jR0) _
  refine jCall_of (n0 := 0) (ls := [some (.ref 57), some (.int x1), some (.int x2), some (.long y3), none]) (by decide +kernel) rfl (Nat.le_of_ble_eq_true rfl) (jQm_of ?_)
  refine jr_iload_n dX9_set_0 rfl rfl ?_
  refine jr_callSN (mc2 := 0) (mc := 0) (ms2 := 0) (ms := 0) vm_X9_32 (av := [.int x1]) (st := []) rfl rfl (Nat.le_of_ble_eq_true rfl) dX9_set_1 (cI_use (M := (yX11_isShelf, cX11_isShelf, 1, some .boolean)) h ?_)
  intro r1 I1 L1 h
  refine jr_if_eq dX9_set_4 (tgt := 35) (by decide) (fun c => ?_) (fun c => ?_)
  · rw [if_pos c] at h
    exact jr_return dX9_set_35 ⟨Or.inl ⟨rfl, rfl⟩, _, _, rfl, h⟩
  · rw [if_neg c] at h
    refine jr_iload_n dX9_set_7 rfl rfl ?_
    refine jr_if_lt dX9_set_8 (tgt := 35) (by decide) (fun c => ?_) (fun c => ?_)
    · rw [if_pos c] at h
      exact jr_return dX9_set_35 ⟨Or.inl ⟨rfl, rfl⟩, _, _, rfl, h⟩
    · rw [if_neg c] at h
      refine jr_iload_n dX9_set_11 rfl rfl ?_
      refine jr_bipush dX9_set_12 kbp_60 ?_
      refine jr_icmp_ge dX9_set_14 (tgt := 35) (by decide) (fun c => ?_) (fun c => ?_)
      · rw [if_pos c] at h
        exact jr_return dX9_set_35 ⟨Or.inl ⟨rfl, rfl⟩, _, _, rfl, h⟩
      · rw [if_neg c] at h
        refine jr_aload_n dX9_set_17 rfl rfl ?_
        refine jr_geta ff_X9_23 ks_57 rr_57_3 dX9_set_18 ?_
        refine jr_iload_n dX9_set_21 rfl rfl ?_
        obtain ⟨g2, h⟩ := h
        refine jr_aaload_l rfl ks_61 dX9_set_22 g2 (rr_row61 (jlt g2)) ?_
        refine jr_iload_n dX9_set_23 rfl rfl ?_
        refine jr_aload_n dX9_set_24 rfl rfl ?_
        refine jr_geta ff_X9_11 ks_57 rr_57_0 dX9_set_25 ?_
        refine jr_iload_n dX9_set_28 rfl rfl ?_
        obtain ⟨g3, h⟩ := h
        refine jv_iaload rfl rfl ks_58 dX9_set_29 g3 ?_
        refine jr_lload_n dX9_set_30 rfl rfl ?_
        refine jr_callS (mc2 := 0) (mc := 0) (ms2 := 0) (ms := 0) vm_X9_56 (av := [.int (I1 58 x1.toNatClampNeg), .long y3]) (st := [.int x2, .ref (62 + x1.toNatClampNeg)]) rfl rfl (Nat.le_of_ble_eq_true rfl) dX9_set_31 (cJ_use (M := (yX9_fitted, cX9_fitted, 3, some .long)) h ?_)
        intro r4 I4 L4 h
        obtain ⟨g5, h⟩ := h
        refine jr_lastore rfl (ks_row61 (jlt g2)) dX9_set_34 g5 ?_
        exact jr_return dX9_set_35 ⟨Or.inl ⟨rfl, rfl⟩, _, _, rfl, h⟩
def wX9_fitted (G : jG) (l : Launch) (d : Nat) (x0 : Int32) (y1 : Int64) (I : jS) (L : jL) (Q : Option Value → jS → jL → Prop) : Prop := if x0 = (0 : Int32) then (Q (some (.long (y1.toInt32.toInt8.toInt32.toInt64))) I L) else (if x0 = (1 : Int32) then (Q (some (.long (y1.toInt32.toInt16.toInt32.toInt64))) I L) else (if x0 = (2 : Int32) then (Q (some (.long (y1.toInt32.toInt64))) I L) else (if x0 = (3 : Int32) then (Q (some (.long y1)) I L) else (if x0 = (4 : Int32) then (if (lg_cmp y1 (0 : Int64)) = 0 then (Q (some (.long (0 : Int64))) I L) else (Q (some (.long (1 : Int64))) I L)) else (Q (some (.long y1)) I L)))))
set_option maxRecDepth 100000 in
set_option maxHeartbeats 4000000 in
theorem wX9_fitted_ok {G : jG} {l : Launch} {d : Nat} {Q : Option Value → jS → jL → Prop} {x0 : Int32} {y1 : Int64} {I : jS} {L : jL} (h : wX9_fitted G l d x0 y1 I L Q) : cM G l mX9_fitted (d + 1) [.int x0, .long y1] I L Q := by
  rw [wX9_fitted] at h
  show jCall G l yX9_fitted cX9_fitted 3 (some .long) (d + 1) 0 0 _ (jKS, I, L, jR0) _
  refine jCall_of (n0 := 0) (ls := [some (.int x0), some (.long y1), none]) (by decide +kernel) rfl (Nat.le_of_ble_eq_true rfl) (jQm_of ?_)
  refine jr_iload_n dX9_fitted_0 rfl rfl ?_
  by_cases c : x0 = (0 : Int32)
  · rw [if_pos c] at h
    refine jr_tableIn dX9_fitted_1 (jtl c (by decide)) (jtg c (by decide)) (off := 35) (jtb c (by decide)) (tgt := 36) (by decide) ?_
    refine jr_lload_n dX9_fitted_36 rfl rfl ?_
    refine jr_l2i dX9_fitted_37 ?_
    refine jr_i2b dX9_fitted_38 ?_
    refine jr_i2l dX9_fitted_39 ?_
    exact jr_lreturn dX9_fitted_40 ⟨Or.inr (Or.inr (Or.inl ⟨rfl, _, rfl⟩)), _, _, rfl, h⟩
  · rw [if_neg c] at h
    have c0 := c
    by_cases c : x0 = (1 : Int32)
    · rw [if_pos c] at h
      refine jr_tableIn dX9_fitted_1 (jtl c (by decide)) (jtg c (by decide)) (off := 40) (jtb c (by decide)) (tgt := 41) (by decide) ?_
      refine jr_lload_n dX9_fitted_41 rfl rfl ?_
      refine jr_l2i dX9_fitted_42 ?_
      refine jr_i2s dX9_fitted_43 ?_
      refine jr_i2l dX9_fitted_44 ?_
      exact jr_lreturn dX9_fitted_45 ⟨Or.inr (Or.inr (Or.inl ⟨rfl, _, rfl⟩)), _, _, rfl, h⟩
    · rw [if_neg c] at h
      have c1 := c
      by_cases c : x0 = (2 : Int32)
      · rw [if_pos c] at h
        refine jr_tableIn dX9_fitted_1 (jtl c (by decide)) (jtg c (by decide)) (off := 45) (jtb c (by decide)) (tgt := 46) (by decide) ?_
        refine jr_lload_n dX9_fitted_46 rfl rfl ?_
        refine jr_l2i dX9_fitted_47 ?_
        refine jr_i2l dX9_fitted_48 ?_
        exact jr_lreturn dX9_fitted_49 ⟨Or.inr (Or.inr (Or.inl ⟨rfl, _, rfl⟩)), _, _, rfl, h⟩
      · rw [if_neg c] at h
        have c2 := c
        by_cases c : x0 = (3 : Int32)
        · rw [if_pos c] at h
          refine jr_tableIn dX9_fitted_1 (jtl c (by decide)) (jtg c (by decide)) (off := 61) (jtb c (by decide)) (tgt := 62) (by decide) ?_
          refine jr_lload_n dX9_fitted_62 rfl rfl ?_
          exact jr_lreturn dX9_fitted_63 ⟨Or.inr (Or.inr (Or.inl ⟨rfl, _, rfl⟩)), _, _, rfl, h⟩
        · rw [if_neg c] at h
          have c3 := c
          by_cases c : x0 = (4 : Int32)
          · rw [if_pos c] at h
            refine jr_tableIn dX9_fitted_1 (jtl c (by decide)) (jtg c (by decide)) (off := 49) (jtb c (by decide)) (tgt := 50) (by decide) ?_
            refine jr_lload_n dX9_fitted_50 rfl rfl ?_
            refine jr_lconst dX9_fitted_51 klc_0 ?_
            refine jr_lcmp dX9_fitted_52 ?_
            refine jr_if_eq dX9_fitted_53 (tgt := 60) (by decide) (fun c => ?_) (fun c => ?_)
            · rw [if_pos c] at h
              refine jr_lconst dX9_fitted_60 klc_0 ?_
              exact jr_lreturn dX9_fitted_61 ⟨Or.inr (Or.inr (Or.inl ⟨rfl, _, rfl⟩)), _, _, rfl, h⟩
            · rw [if_neg c] at h
              refine jr_lconst dX9_fitted_56 klc_1 ?_
              refine jr_goto dX9_fitted_57 (tgt := 61) (by decide) ?_
              exact jr_lreturn dX9_fitted_61 ⟨Or.inr (Or.inr (Or.inl ⟨rfl, _, rfl⟩)), _, _, rfl, h⟩
          · rw [if_neg c] at h
            have c4 := c
            refine jr_tableOut dX9_fitted_1 (by
              rcases Int.lt_or_le (x0).toInt (0) with q | q
              · exact Or.inl q
              · rcases Int.lt_or_le (4) (x0).toInt with q2 | q2
                · exact Or.inr q2
                · exfalso
                  have ec0 := lv_neT c0 (a := 0) rfl
                  have ec1 := lv_neT c1 (a := 1) rfl
                  have ec2 := lv_neT c2 (a := 2) rfl
                  have ec3 := lv_neT c3 (a := 3) rfl
                  have ec4 := lv_neT c4 (a := 4) rfl
                  omega) (tgt := 62) (by decide) ?_
            refine jr_lload_n dX9_fitted_62 rfl rfl ?_
            exact jr_lreturn dX9_fitted_63 ⟨Or.inr (Or.inr (Or.inl ⟨rfl, _, rfl⟩)), _, _, rfl, h⟩
def wX9_areAlike (G : jG) (l : Launch) (d : Nat) (x1 : Int32) (x2 : Int32) (I : jS) (L : jL) (Q : Option Value → jS → jL → Prop) : Prop := cI G l mX9_isRow d [.ref 57, .int x1] I L (fun r1 I1 L1 => (if r1 = 0 then (Q (some (.int (0 : Int32))) I1 L1) else (cI G l mX9_isRow d [.ref 57, .int x2] I1 L1 (fun r2 I2 L2 => (if r2 = 0 then (Q (some (.int (0 : Int32))) I2 L2) else (vp_in x1 6 ∧ (vp_in x2 6 ∧ (if (I2 58 x1.toNatClampNeg) = (I2 58 x2.toNatClampNeg) then (Q (some (.int (1 : Int32))) I2 L2) else (Q (some (.int (0 : Int32))) I2 L2)))))))))
set_option maxRecDepth 100000 in
set_option maxHeartbeats 4000000 in
theorem wX9_areAlike_ok {G : jG} {l : Launch} {d : Nat} {Q : Option Value → jS → jL → Prop} {x1 : Int32} {x2 : Int32} {I : jS} {L : jL} (h : wX9_areAlike G l d x1 x2 I L Q) : cM G l mX9_areAlike (d + 1) [.ref 57, .int x1, .int x2] I L Q := by
  rw [wX9_areAlike] at h
  show jCall G l yX9_areAlike cX9_areAlike 3 (some .boolean) (d + 1) 0 0 _ (jKS, I, L, jR0) _
  refine jCall_of (n0 := 0) (ls := [some (.ref 57), some (.int x1), some (.int x2)]) (by decide +kernel) rfl (Nat.le_of_ble_eq_true rfl) (jQm_of ?_)
  refine jr_aload_n dX9_areAlike_0 rfl rfl ?_
  refine jr_iload_n dX9_areAlike_1 rfl rfl ?_
  refine jr_callV (mc2 := 0) (mc := 0) (ms2 := 0) (ms := 0) vm_X9_42 (av := [.int x1]) (st := []) rfl rfl ks_57 (by decide) rfl (Nat.le_of_ble_eq_true rfl) dX9_areAlike_2 (cI_use (M := (yX9_isRow, cX9_isRow, 2, some .boolean)) h ?_)
  intro r1 I1 L1 h
  refine jr_if_eq dX9_areAlike_5 (tgt := 35) (by decide) (fun c => ?_) (fun c => ?_)
  · rw [if_pos c] at h
    refine jr_iconst dX9_areAlike_35 kic_0 ?_
    exact jr_ireturn dX9_areAlike_36 ⟨Or.inr (Or.inr (Or.inr ⟨rfl, Or.inl rfl⟩)), _, _, rfl, h⟩
  · rw [if_neg c] at h
    refine jr_aload_n dX9_areAlike_8 rfl rfl ?_
    refine jr_iload_n dX9_areAlike_9 rfl rfl ?_
    refine jr_callV (mc2 := 0) (mc := 0) (ms2 := 0) (ms := 0) vm_X9_42 (av := [.int x2]) (st := []) rfl rfl ks_57 (by decide) rfl (Nat.le_of_ble_eq_true rfl) dX9_areAlike_10 (cI_use (M := (yX9_isRow, cX9_isRow, 2, some .boolean)) h ?_)
    intro r2 I2 L2 h
    refine jr_if_eq dX9_areAlike_13 (tgt := 35) (by decide) (fun c => ?_) (fun c => ?_)
    · rw [if_pos c] at h
      refine jr_iconst dX9_areAlike_35 kic_0 ?_
      exact jr_ireturn dX9_areAlike_36 ⟨Or.inr (Or.inr (Or.inr ⟨rfl, Or.inl rfl⟩)), _, _, rfl, h⟩
    · rw [if_neg c] at h
      refine jr_aload_n dX9_areAlike_16 rfl rfl ?_
      refine jr_geta ff_X9_11 ks_57 rr_57_0 dX9_areAlike_17 ?_
      refine jr_iload_n dX9_areAlike_20 rfl rfl ?_
      obtain ⟨g3, h⟩ := h
      refine jv_iaload rfl rfl ks_58 dX9_areAlike_21 g3 ?_
      refine jr_aload_n dX9_areAlike_22 rfl rfl ?_
      refine jr_geta ff_X9_11 ks_57 rr_57_0 dX9_areAlike_23 ?_
      refine jr_iload_n dX9_areAlike_26 rfl rfl ?_
      obtain ⟨g4, h⟩ := h
      refine jv_iaload rfl rfl ks_58 dX9_areAlike_27 g4 ?_
      refine jr_icmp_ne dX9_areAlike_28 (tgt := 35) (by decide) (fun c => ?_) (fun c => ?_)
      · rw [if_neg c] at h
        refine jr_iconst dX9_areAlike_35 kic_0 ?_
        exact jr_ireturn dX9_areAlike_36 ⟨Or.inr (Or.inr (Or.inr ⟨rfl, Or.inl rfl⟩)), _, _, rfl, h⟩
      · rw [if_pos c] at h
        refine jr_iconst dX9_areAlike_31 kic_1 ?_
        refine jr_goto dX9_areAlike_32 (tgt := 36) (by decide) ?_
        exact jr_ireturn dX9_areAlike_36 ⟨Or.inr (Or.inr (Or.inr ⟨rfl, Or.inr rfl⟩)), _, _, rfl, h⟩
def wX9_hasSpan (G : jG) (l : Launch) (d : Nat) (x1 : Int32) (x2 : Int32) (x3 : Int32) (I : jS) (L : jL) (Q : Option Value → jS → jL → Prop) : Prop := cI G l mX9_sizeOf d [.ref 57, .int x1] I L (fun r1 I1 L1 => (if x2 < 0 then (Q (some (.int (0 : Int32))) I1 L1) else (if r1 < x2 then (Q (some (.int (0 : Int32))) I1 L1) else (if x3 < 0 then (Q (some (.int (0 : Int32))) I1 L1) else (if (r1 - x2) < x3 then (Q (some (.int (0 : Int32))) I1 L1) else (Q (some (.int (1 : Int32))) I1 L1))))))
set_option maxRecDepth 100000 in
set_option maxHeartbeats 4000000 in
theorem wX9_hasSpan_ok {G : jG} {l : Launch} {d : Nat} {Q : Option Value → jS → jL → Prop} {x1 : Int32} {x2 : Int32} {x3 : Int32} {I : jS} {L : jL} (h : wX9_hasSpan G l d x1 x2 x3 I L Q) : cM G l mX9_hasSpan (d + 1) [.ref 57, .int x1, .int x2, .int x3] I L Q := by
  rw [wX9_hasSpan] at h
  show jCall G l yX9_hasSpan cX9_hasSpan 5 (some .boolean) (d + 1) 0 0 _ (jKS, I, L, jR0) _
  refine jCall_of (n0 := 1) (ls := [some (.ref 57), some (.int x1), some (.int x2), some (.int x3), none]) (by decide +kernel) rfl (Nat.le_of_ble_eq_true rfl) (jQm_of ?_)
  refine jr_aload_n dX9_hasSpan_0 rfl rfl ?_
  refine jr_iload_n dX9_hasSpan_1 rfl rfl ?_
  refine jr_callV (mc2 := 0) (mc := 0) (ms2 := 0) (ms := 0) vm_X9_45 (av := [.int x1]) (st := []) rfl rfl ks_57 (by decide) rfl (Nat.le_of_ble_eq_true rfl) dX9_hasSpan_2 (cI_use (M := (yX9_sizeOf, cX9_sizeOf, 2, some .int)) h ?_)
  intro r1 I1 L1 h
  refine jr_istore dX9_hasSpan_5 (by decide) rfl ?_
  refine jr_iload_n dX9_hasSpan_7 rfl rfl ?_
  refine jr_if_lt dX9_hasSpan_8 (tgt := 33) (by decide) (fun c => ?_) (fun c => ?_)
  · rw [if_pos c] at h
    refine jr_iconst dX9_hasSpan_33 kic_0 ?_
    exact jr_ireturn dX9_hasSpan_34 ⟨Or.inr (Or.inr (Or.inr ⟨rfl, Or.inl rfl⟩)), _, _, rfl, h⟩
  · rw [if_neg c] at h
    refine jr_iload_n dX9_hasSpan_11 rfl rfl ?_
    refine jr_iload dX9_hasSpan_12 rfl ?_
    refine jr_icmp_gt dX9_hasSpan_14 (tgt := 33) (by decide) (fun c => ?_) (fun c => ?_)
    · rw [if_pos c] at h
      refine jr_iconst dX9_hasSpan_33 kic_0 ?_
      exact jr_ireturn dX9_hasSpan_34 ⟨Or.inr (Or.inr (Or.inr ⟨rfl, Or.inl rfl⟩)), _, _, rfl, h⟩
    · rw [if_neg c] at h
      refine jr_iload_n dX9_hasSpan_17 rfl rfl ?_
      refine jr_if_lt dX9_hasSpan_18 (tgt := 33) (by decide) (fun c => ?_) (fun c => ?_)
      · rw [if_pos c] at h
        refine jr_iconst dX9_hasSpan_33 kic_0 ?_
        exact jr_ireturn dX9_hasSpan_34 ⟨Or.inr (Or.inr (Or.inr ⟨rfl, Or.inl rfl⟩)), _, _, rfl, h⟩
      · rw [if_neg c] at h
        refine jr_iload_n dX9_hasSpan_21 rfl rfl ?_
        refine jr_iload dX9_hasSpan_22 rfl ?_
        refine jr_iload_n dX9_hasSpan_24 rfl rfl ?_
        refine jr_isub dX9_hasSpan_25 ?_
        refine jr_icmp_gt dX9_hasSpan_26 (tgt := 33) (by decide) (fun c => ?_) (fun c => ?_)
        · rw [if_pos c] at h
          refine jr_iconst dX9_hasSpan_33 kic_0 ?_
          exact jr_ireturn dX9_hasSpan_34 ⟨Or.inr (Or.inr (Or.inr ⟨rfl, Or.inl rfl⟩)), _, _, rfl, h⟩
        · rw [if_neg c] at h
          refine jr_iconst dX9_hasSpan_29 kic_1 ?_
          refine jr_goto dX9_hasSpan_30 (tgt := 34) (by decide) ?_
          exact jr_ireturn dX9_hasSpan_34 ⟨Or.inr (Or.inr (Or.inr ⟨rfl, Or.inr rfl⟩)), _, _, rfl, h⟩
def wX9_move (G : jG) (l : Launch) (d : Nat) (x1 : Int32) (x2 : Int32) (x3 : Int32) (x4 : Int32) (x5 : Int32) (I : jS) (L : jL) (Q : Option Value → jS → jL → Prop) : Prop := cI G l mX9_hasSpan d [.ref 57, .int x1, .int x2, .int x5] I L (fun r1 I1 L1 => (if r1 = 0 then (Q none I1 L1) else (cI G l mX9_hasSpan d [.ref 57, .int x3, .int x4, .int x5] I1 L1 (fun r2 I2 L2 => (if r2 = 0 then (Q none I2 L2) else (cI G l mX11_isShelf d [.int x1] I2 L2 (fun r3 I3 L3 => (if r3 = 0 then (Q none I3 L3) else (cI G l mX11_isShelf d [.int x3] I3 L3 (fun r4 I4 L4 => (if r4 = 0 then (Q none I4 L4) else (vp_in x1 6 ∧ (vp_in x3 6 ∧ (jcok x2 x4 x5 60 60 ∧ (Q none I4 (jcpyL L4 (62 + x1.toNatClampNeg) (62 + x3.toNatClampNeg) x2 x4 x5))))))))))))))))
set_option maxRecDepth 100000 in
set_option maxHeartbeats 4000000 in
theorem wX9_move_ok {G : jG} {l : Launch} {d : Nat} {Q : Option Value → jS → jL → Prop} {x1 : Int32} {x2 : Int32} {x3 : Int32} {x4 : Int32} {x5 : Int32} {I : jS} {L : jL} (h : wX9_move G l d x1 x2 x3 x4 x5 I L Q) : cM G l mX9_move (d + 1) [.ref 57, .int x1, .int x2, .int x3, .int x4, .int x5] I L Q := by
  rw [wX9_move] at h
  show jCall G l yX9_move cX9_move 6 (none) (d + 1) 0 0 _ (jKS, I, L, jR0) _
  refine jCall_of (n0 := 0) (ls := [some (.ref 57), some (.int x1), some (.int x2), some (.int x3), some (.int x4), some (.int x5)]) (by decide +kernel) rfl (Nat.le_of_ble_eq_true rfl) (jQm_of ?_)
  refine jr_aload_n dX9_move_0 rfl rfl ?_
  refine jr_iload_n dX9_move_1 rfl rfl ?_
  refine jr_iload_n dX9_move_2 rfl rfl ?_
  refine jr_iload dX9_move_3 rfl ?_
  refine jr_callV (mc2 := 0) (mc := 0) (ms2 := 0) (ms := 0) vm_X9_60 (av := [.int x1, .int x2, .int x5]) (st := []) rfl rfl ks_57 (by decide) rfl (Nat.le_of_ble_eq_true rfl) dX9_move_5 (cI_use (M := (yX9_hasSpan, cX9_hasSpan, 5, some .boolean)) h ?_)
  intro r1 I1 L1 h
  refine jr_if_eq dX9_move_8 (tgt := 23) (by decide) (fun c => ?_) (fun c => ?_)
  · rw [if_pos c] at h
    exact jr_return dX9_move_23 ⟨Or.inl ⟨rfl, rfl⟩, _, _, rfl, h⟩
  · rw [if_neg c] at h
    refine jr_aload_n dX9_move_11 rfl rfl ?_
    refine jr_iload_n dX9_move_12 rfl rfl ?_
    refine jr_iload dX9_move_13 rfl ?_
    refine jr_iload dX9_move_15 rfl ?_
    refine jr_callV (mc2 := 0) (mc := 0) (ms2 := 0) (ms := 0) vm_X9_60 (av := [.int x3, .int x4, .int x5]) (st := []) rfl rfl ks_57 (by decide) rfl (Nat.le_of_ble_eq_true rfl) dX9_move_17 (cI_use (M := (yX9_hasSpan, cX9_hasSpan, 5, some .boolean)) h ?_)
    intro r2 I2 L2 h
    refine jr_if_ne dX9_move_20 (tgt := 24) (by decide) (fun c => ?_) (fun c => ?_)
    · rw [if_neg c] at h
      refine jr_iload_n dX9_move_24 rfl rfl ?_
      refine jr_callSN (mc2 := 0) (mc := 0) (ms2 := 0) (ms := 0) vm_X9_32 (av := [.int x1]) (st := []) rfl rfl (Nat.le_of_ble_eq_true rfl) dX9_move_25 (cI_use (M := (yX11_isShelf, cX11_isShelf, 1, some .boolean)) h ?_)
      intro r3 I3 L3 h
      refine jr_if_eq dX9_move_28 (tgt := 38) (by decide) (fun c => ?_) (fun c => ?_)
      · rw [if_pos c] at h
        exact jr_return dX9_move_38 ⟨Or.inl ⟨rfl, rfl⟩, _, _, rfl, h⟩
      · rw [if_neg c] at h
        refine jr_iload_n dX9_move_31 rfl rfl ?_
        refine jr_callSN (mc2 := 0) (mc := 0) (ms2 := 0) (ms := 0) vm_X9_32 (av := [.int x3]) (st := []) rfl rfl (Nat.le_of_ble_eq_true rfl) dX9_move_32 (cI_use (M := (yX11_isShelf, cX11_isShelf, 1, some .boolean)) h ?_)
        intro r4 I4 L4 h
        refine jr_if_ne dX9_move_35 (tgt := 39) (by decide) (fun c => ?_) (fun c => ?_)
        · rw [if_neg c] at h
          refine jr_aload_n dX9_move_39 rfl rfl ?_
          refine jr_geta ff_X9_23 ks_57 rr_57_3 dX9_move_40 ?_
          refine jr_iload_n dX9_move_43 rfl rfl ?_
          obtain ⟨g5, h⟩ := h
          refine jr_aaload_l rfl ks_61 dX9_move_44 g5 (rr_row61 (jlt g5)) ?_
          refine jr_iload_n dX9_move_45 rfl rfl ?_
          refine jr_aload_n dX9_move_46 rfl rfl ?_
          refine jr_geta ff_X9_23 ks_57 rr_57_3 dX9_move_47 ?_
          refine jr_iload_n dX9_move_50 rfl rfl ?_
          obtain ⟨g6, h⟩ := h
          refine jr_aaload_l rfl ks_61 dX9_move_51 g6 (rr_row61 (jlt g6)) ?_
          refine jr_iload dX9_move_52 rfl ?_
          refine jr_iload dX9_move_54 rfl ?_
          obtain ⟨g7, h⟩ := h
          refine jr_copyl cw_X9_64 (ks_row61 (jlt g5)) (ks_row61 (jlt g6)) g7 (by decide) (Nat.le_of_ble_eq_true rfl) dX9_move_56 ?_
          exact jr_return dX9_move_59 ⟨Or.inl ⟨rfl, rfl⟩, _, _, rfl, h⟩
        · rw [if_pos c] at h
          exact jr_return dX9_move_38 ⟨Or.inl ⟨rfl, rfl⟩, _, _, rfl, h⟩
    · rw [if_pos c] at h
      exact jr_return dX9_move_23 ⟨Or.inl ⟨rfl, rfl⟩, _, _, rfl, h⟩

def wX3_layStrength (G : jG) (l : Launch) (d : Nat) (ic1 : Nat) (I : jS) (L : jL) (Q : Option Value → jS → jL → Prop) : Prop := jcok (0 : Int32) (0 : Int32) (24 : Int32) 24 24 ∧ (Q none (jcpy I 3 (ic1 + 1) (0 : Int32) (0 : Int32) (24 : Int32)) L)
set_option maxRecDepth 100000 in
set_option maxHeartbeats 4000000 in
theorem wX3_layStrength_ok {G : jG} {l : Launch} {d : Nat} {ic1 : Nat} {Q : Option Value → jS → jL → Prop} (hic1 : isIce ic1) {I : jS} {L : jL} (h : wX3_layStrength G l d ic1 I L Q) : cM G l mX3_layStrength (d + 1) [.ref 23, .ref ic1] I L Q := by
  rw [wX3_layStrength] at h
  show jCall G l yX3_layStrength cX3_layStrength 2 (none) (d + 1) 0 0 _ (jKS, I, L, jR0) _
  refine jCall_of (n0 := 0) (ls := [some (.ref 23), some (.ref ic1)]) (by decide +kernel) rfl (Nat.le_of_ble_eq_true rfl) (jQm_of ?_)
  refine jr_aload_n dX3_layStrength_0 rfl rfl ?_
  refine jr_geta ff_X3_9 ks_23 rr_23_0 dX3_layStrength_1 ?_
  refine jr_geta ff_X3_33 ks_1 rr_1_0 dX3_layStrength_4 ?_
  refine jr_iconst dX3_layStrength_7 kic_0 ?_
  refine jr_aaload_i nn_0 ks_2 dX3_layStrength_8 vin_0_9 rr_2_0 ?_
  refine jr_iconst dX3_layStrength_9 kic_0 ?_
  refine jr_aload_n dX3_layStrength_10 rfl rfl ?_
  refine jr_geta ff_X3_39 (ks_ice0 hic1) (rr_ice0 hic1) dX3_layStrength_11 ?_
  refine jr_iconst dX3_layStrength_14 kic_0 ?_
  refine jr_bipush dX3_layStrength_15 kbp_24 ?_
  obtain ⟨g1, h⟩ := h
  refine jr_copyi cw_X3_45 ks_3 (ks_ice1 hic1) g1 (by decide) (Nat.le_of_ble_eq_true rfl) dX3_layStrength_17 ?_
  exact jr_return dX3_layStrength_20 ⟨Or.inl ⟨rfl, rfl⟩, _, _, rfl, h⟩
def wX3_follow (G : jG) (l : Launch) (d : Nat) (ic1 : Nat) (ic2 : Nat) (I : jS) (L : jL) (Q : Option Value → jS → jL → Prop) : Prop := jcok (0 : Int32) (0 : Int32) (24 : Int32) 24 24 ∧ (cV G l mX3_layStrength d [.ref 23, .ref ic1] (u2 (jcpy I (ic2 + 2) (ic1 + 2) (0 : Int32) (0 : Int32) (24 : Int32)) ic1 2 ((jcpy I (ic2 + 2) (ic1 + 2) (0 : Int32) (0 : Int32) (24 : Int32)) ic2 2)) L (fun I2 L2 => (Q none I2 L2)))
set_option maxRecDepth 100000 in
set_option maxHeartbeats 4000000 in
theorem wX3_follow_ok {G : jG} {l : Launch} {d : Nat} {ic1 : Nat} {ic2 : Nat} {Q : Option Value → jS → jL → Prop} (hic1 : isIce ic1) (hic2 : isIce ic2) {I : jS} {L : jL} (h : wX3_follow G l d ic1 ic2 I L Q) : cM G l mX3_follow (d + 1) [.ref 23, .ref ic1, .ref ic2] I L Q := by
  rw [wX3_follow] at h
  show jCall G l yX3_follow cX3_follow 3 (none) (d + 1) 0 0 _ (jKS, I, L, jR0) _
  refine jCall_of (n0 := 0) (ls := [some (.ref 23), some (.ref ic1), some (.ref ic2)]) (by decide +kernel) rfl (Nat.le_of_ble_eq_true rfl) (jQm_of ?_)
  refine jr_aload_n dX3_follow_0 rfl rfl ?_
  refine jr_geta ff_X3_51 (ks_ice0 hic2) (rr_ice1 hic2) dX3_follow_1 ?_
  refine jr_iconst dX3_follow_4 kic_0 ?_
  refine jr_aload_n dX3_follow_5 rfl rfl ?_
  refine jr_geta ff_X3_51 (ks_ice0 hic1) (rr_ice1 hic1) dX3_follow_6 ?_
  refine jr_iconst dX3_follow_9 kic_0 ?_
  refine jr_bipush dX3_follow_10 kbp_24 ?_
  obtain ⟨g1, h⟩ := h
  refine jr_copyi cw_X3_45 (ks_ice2 hic2) (ks_ice2 hic1) g1 (by decide) (Nat.le_of_ble_eq_true rfl) dX3_follow_12 ?_
  refine jr_aload_n dX3_follow_15 rfl rfl ?_
  refine jr_aload_n dX3_follow_16 rfl rfl ?_
  refine jv_geti rfl ff_X3_54 (ks_ice0 hic2) dX3_follow_17 ?_
  refine jr_puti ff_X3_54 (ks_ice0 hic1) dX3_follow_20 ?_
  refine jr_aload_n dX3_follow_23 rfl rfl ?_
  refine jr_aload_n dX3_follow_24 rfl rfl ?_
  refine jr_callV (mc2 := 0) (mc := 0) (ms2 := 0) (ms := 0) vm_X3_57 (av := [.ref ic1]) (st := []) rfl rfl ks_23 (by decide) rfl (Nat.le_of_ble_eq_true rfl) dX3_follow_25 (cV_use (M := (yX3_layStrength, cX3_layStrength, 2, none)) h ?_)
  intro I2 L2 h
  exact jr_return dX3_follow_28 ⟨Or.inl ⟨rfl, rfl⟩, _, _, rfl, h⟩
def wX3_thin (G : jG) (l : Launch) (d : Nat) (ic1 : Nat) (x2 : Int32) (I : jS) (L : jL) (Q : Option Value → jS → jL → Prop) : Prop := cI G l mX11_isSquare d [.int x2] I L (fun r1 I1 L1 => (if r1 = 0 then (Q none I1 L1) else (vp_in x2 24 ∧ (cI G l mX7_get d [.ref 1, .int x2, .int (3 : Int32)] I1 L1 (fun r3 I3 L3 => (Q none (u2 I3 (ic1 + 1) x2.toNatClampNeg ((I1 (ic1 + 1) x2.toNatClampNeg) - r3)) L3))))))
set_option maxRecDepth 100000 in
set_option maxHeartbeats 4000000 in
theorem wX3_thin_ok {G : jG} {l : Launch} {d : Nat} {ic1 : Nat} {Q : Option Value → jS → jL → Prop} (hic1 : isIce ic1) {x2 : Int32} {I : jS} {L : jL} (h : wX3_thin G l d ic1 x2 I L Q) : cM G l mX3_thin (d + 1) [.ref 23, .ref ic1, .int x2] I L Q := by
  rw [wX3_thin] at h
  show jCall G l yX3_thin cX3_thin 3 (none) (d + 1) 0 0 _ (jKS, I, L, jR0) _
  refine jCall_of (n0 := 0) (ls := [some (.ref 23), some (.ref ic1), some (.int x2)]) (by decide +kernel) rfl (Nat.le_of_ble_eq_true rfl) (jQm_of ?_)
  refine jr_iload_n dX3_thin_0 rfl rfl ?_
  refine jr_callSN (mc2 := 0) (mc := 0) (ms2 := 0) (ms := 0) vm_X3_61 (av := [.int x2]) (st := []) rfl rfl (Nat.le_of_ble_eq_true rfl) dX3_thin_1 (cI_use (M := (yX11_isSquare, cX11_isSquare, 1, some .boolean)) h ?_)
  intro r1 I1 L1 h
  refine jr_if_eq dX3_thin_4 (tgt := 25) (by decide) (fun c => ?_) (fun c => ?_)
  · rw [if_pos c] at h
    exact jr_return dX3_thin_25 ⟨Or.inl ⟨rfl, rfl⟩, _, _, rfl, h⟩
  · rw [if_neg c] at h
    refine jr_aload_n dX3_thin_7 rfl rfl ?_
    refine jr_geta ff_X3_39 (ks_ice0 hic1) (rr_ice0 hic1) dX3_thin_8 ?_
    refine jr_iload_n dX3_thin_11 rfl rfl ?_
    refine jr_dup2_11 dX3_thin_12 rfl rfl ?_
    obtain ⟨g2, h⟩ := h
    refine jv_iaload rfl rfl (ks_ice1 hic1) dX3_thin_13 g2 ?_
    refine jr_aload_n dX3_thin_14 rfl rfl ?_
    refine jr_geta ff_X3_9 ks_23 rr_23_0 dX3_thin_15 ?_
    refine jr_iload_n dX3_thin_18 rfl rfl ?_
    refine jr_iconst dX3_thin_19 kic_3 ?_
    refine jr_callV (mc2 := 0) (mc := 0) (ms2 := 0) (ms := 0) vm_X3_65 (av := [.int x2, .int (3 : Int32)]) (st := [.int (I1 (ic1 + 1) x2.toNatClampNeg), .int x2, .ref (ic1 + 1)]) rfl rfl ks_1 (by decide) rfl (Nat.le_of_ble_eq_true rfl) dX3_thin_20 (cI_use (M := (yX7_get, cX7_get, 4, some .int)) h ?_)
    intro r3 I3 L3 h
    refine jr_isub dX3_thin_23 ?_
    refine jr_iastore rfl (ks_ice1 hic1) dX3_thin_24 g2 ?_
    exact jr_return dX3_thin_25 ⟨Or.inl ⟨rfl, rfl⟩, _, _, rfl, h⟩
def wX3_draw_6 (G : jG) (l : Launch) (d : Nat) (ic1 : Nat) (Q : Option Value → jS → jL → Prop) : Nat → Int32 → Int32 → Int32 → jS → jL → Prop
  | 0, _, _, _, _, _ => False
  | n6 + 1, x2, x4, x5, I, L => if (8 : Int32) ≤ x5 then (Q (some (.int x4)) I L) else (cI G l mX7_get d [.ref 1, .int ((x2 * (8 : Int32)) + x5), .int (2 : Int32)] I L (fun r1 I1 L1 => (if r1 ≤ ((jushr ((x4 * (1103515245 : Int32)) + (12345 : Int32)) (8 : Int32)) - (jushr ((x4 * (1103515245 : Int32)) + (12345 : Int32)) (8 : Int32)) / (12 : Int32) * (12 : Int32)) then ((wX3_draw_6 G l d ic1 Q n6) x2 ((x4 * (1103515245 : Int32)) + (12345 : Int32)) (x5 + (1 : Int32)) I1 L1) else (cV G l mX3_thin d [.ref 23, .ref ic1, .int ((x2 * (8 : Int32)) + x5)] I1 L1 (fun I2 L2 => ((wX3_draw_6 G l d ic1 Q n6) x2 ((x4 * (1103515245 : Int32)) + (12345 : Int32)) (x5 + (1 : Int32)) I2 L2))))))
set_option maxRecDepth 100000 in
set_option maxHeartbeats 4000000 in
theorem wX3_draw_6_ok {G : jG} {l : Launch} {d : Nat} {ic1 : Nat} {Q : Option Value → jS → jL → Prop} (hic1 : isIce ic1) : ∀ (n : Nat) (x2 : Int32) (x4 : Int32) (x5 : Int32) (I : jS) (L : jL), wX3_draw_6 G l d ic1 Q n x2 x4 x5 I L → J G l yX3_draw cX3_draw 7 (d + 1) 0 0 6 [some (.ref 23), some (.ref ic1), some (.int x2), none, some (.int x4), some (.int x5), none] [] (jKS, I, L, jR0) (jQm (some .int) Q) := by
  intro n
  induction n with
  | zero => intro x2 x4 x5 I L h; exact h.elim
  | succ n ih =>
    intro x2 x4 x5 I L h
    rw [wX3_draw_6] at h
    refine jr_iload dX3_draw_6 rfl ?_
    refine jr_bipush dX3_draw_8 kbp_8 ?_
    refine jr_icmp_ge dX3_draw_10 (tgt := 67) (by decide) (fun c => ?_) (fun c => ?_)
    · rw [if_pos c] at h
      refine jr_iload dX3_draw_67 rfl ?_
      exact jr_ireturn dX3_draw_69 ⟨Or.inr (Or.inl ⟨rfl, _, rfl⟩), _, _, rfl, h⟩
    · rw [if_neg c] at h
      refine jr_iload_n dX3_draw_13 rfl rfl ?_
      refine jr_bipush dX3_draw_14 kbp_8 ?_
      refine jr_imul dX3_draw_16 ?_
      refine jr_iload dX3_draw_17 rfl ?_
      refine jr_iadd dX3_draw_19 ?_
      refine jr_istore dX3_draw_20 (by decide) rfl ?_
      refine jr_iload dX3_draw_22 rfl ?_
      refine jr_ldc ki_X3_69 dX3_draw_24 ?_
      refine jr_imul dX3_draw_26 ?_
      refine jr_sipush dX3_draw_27 ksp_12345 ?_
      refine jr_iadd dX3_draw_30 ?_
      refine jr_istore dX3_draw_31 (by decide) rfl ?_
      refine jr_iload dX3_draw_33 rfl ?_
      refine jr_bipush dX3_draw_35 kbp_8 ?_
      refine jr_iushr (v := (jushr ((x4 * (1103515245 : Int32)) + (12345 : Int32)) (8 : Int32))) dX3_draw_37 rfl ?_
      refine jr_bipush dX3_draw_38 kbp_12 ?_
      refine jr_irem dX3_draw_40 (by decide) ?_
      refine jr_aload_n dX3_draw_41 rfl rfl ?_
      refine jr_geta ff_X3_9 ks_23 rr_23_0 dX3_draw_42 ?_
      refine jr_iload dX3_draw_45 rfl ?_
      refine jr_iconst dX3_draw_47 kic_2 ?_
      refine jr_callV (mc2 := 0) (mc := 0) (ms2 := 0) (ms := 0) vm_X3_65 (av := [.int ((x2 * (8 : Int32)) + x5), .int (2 : Int32)]) (st := [.int ((jushr ((x4 * (1103515245 : Int32)) + (12345 : Int32)) (8 : Int32)) - (jushr ((x4 * (1103515245 : Int32)) + (12345 : Int32)) (8 : Int32)) / (12 : Int32) * (12 : Int32))]) rfl rfl ks_1 (by decide) rfl (Nat.le_of_ble_eq_true rfl) dX3_draw_48 (cI_use (M := (yX7_get, cX7_get, 4, some .int)) h ?_)
      intro r1 I1 L1 h
      refine jr_icmp_ge dX3_draw_51 (tgt := 61) (by decide) (fun c => ?_) (fun c => ?_)
      · rw [if_pos c] at h
        refine jr_iinc dX3_draw_61 rfl (by rw [kic_1]) (by decide) rfl ?_
        refine jr_goto dX3_draw_64 (tgt := 6) (by decide) ?_
        exact J.sub (ih _ _ _ _ _ h) (jsub_some (jsub_some (jsub_some (jsub_none (jsub_some (jsub_some (jsub_none jsub_nil)))))))
      · rw [if_neg c] at h
        refine jr_aload_n dX3_draw_54 rfl rfl ?_
        refine jr_aload_n dX3_draw_55 rfl rfl ?_
        refine jr_iload dX3_draw_56 rfl ?_
        refine jr_callV (mc2 := 0) (mc := 0) (ms2 := 0) (ms := 0) vm_X3_70 (av := [.ref ic1, .int ((x2 * (8 : Int32)) + x5)]) (st := []) rfl rfl ks_23 (by decide) rfl (Nat.le_of_ble_eq_true rfl) dX3_draw_58 (cV_use (M := (yX3_thin, cX3_thin, 3, none)) h ?_)
        intro I2 L2 h
        refine jr_iinc dX3_draw_61 rfl (by rw [kic_1]) (by decide) rfl ?_
        refine jr_goto dX3_draw_64 (tgt := 6) (by decide) ?_
        exact J.sub (ih _ _ _ _ _ h) (jsub_some (jsub_some (jsub_some (jsub_none (jsub_some (jsub_some (jsub_none jsub_nil)))))))
def wX3_draw (G : jG) (l : Launch) (d : Nat) (ic1 : Nat) (x2 : Int32) (x3 : Int32) (I : jS) (L : jL) (Q : Option Value → jS → jL → Prop) : Prop := ∃ e6 : Nat, wX3_draw_6 G l d ic1 Q e6 x2 x3 (0 : Int32) I L
set_option maxRecDepth 100000 in
set_option maxHeartbeats 4000000 in
theorem wX3_draw_ok {G : jG} {l : Launch} {d : Nat} {ic1 : Nat} {Q : Option Value → jS → jL → Prop} (hic1 : isIce ic1) {x2 : Int32} {x3 : Int32} {I : jS} {L : jL} (h : wX3_draw G l d ic1 x2 x3 I L Q) : cM G l mX3_draw (d + 1) [.ref 23, .ref ic1, .int x2, .int x3] I L Q := by
  rw [wX3_draw] at h
  show jCall G l yX3_draw cX3_draw 7 (some .int) (d + 1) 0 0 _ (jKS, I, L, jR0) _
  refine jCall_of (n0 := 3) (ls := [some (.ref 23), some (.ref ic1), some (.int x2), some (.int x3), none, none, none]) (by decide +kernel) rfl (Nat.le_of_ble_eq_true rfl) (jQm_of ?_)
  refine jr_iload_n dX3_draw_0 rfl rfl ?_
  refine jr_istore dX3_draw_1 (by decide) rfl ?_
  refine jr_iconst dX3_draw_3 kic_0 ?_
  refine jr_istore dX3_draw_4 (by decide) rfl ?_
  obtain ⟨e6, h⟩ := h
  exact J.sub (wX3_draw_6_ok hic1 e6 _ _ _ _ _ h) (jsub_some (jsub_some (jsub_some (jsub_none (jsub_some (jsub_some (jsub_none jsub_nil)))))))
def wX3_bearing (G : jG) (l : Launch) (d : Nat) (ic1 : Nat) (x2 : Int32) (x3 : Int32) (I : jS) (L : jL) (Q : Option Value → jS → jL → Prop) : Prop := cI G l mX11_isSquare d [.int x2] I L (fun r1 I1 L1 => (if r1 = 0 then (Q (some (.int (0 : Int32))) I1 L1) else (vp_in x2 24 ∧ (cI G l mX7_get d [.ref 1, .int x2, .int (1 : Int32)] I1 L1 (fun r3 I3 L3 => (cI G l mX7_get d [.ref 1, .int (0 : Int32), .int (8 : Int32)] I3 L3 (fun r4 I4 L4 => (Q (some (.int (if (0 : Int32) < (((I4 (ic1 + 1) x2.toNatClampNeg) - (if (0 : Int32) < ((I1 (ic1 + 2) x2.toNatClampNeg) - (x3 * r3)) then ((I1 (ic1 + 2) x2.toNatClampNeg) - (x3 * r3)) else (0 : Int32))) - (if (0 : Int32) < (((I3 ic1 2) + x3) - r4) then (((I3 ic1 2) + x3) - r4) else (0 : Int32))) then (((I4 (ic1 + 1) x2.toNatClampNeg) - (if (0 : Int32) < ((I1 (ic1 + 2) x2.toNatClampNeg) - (x3 * r3)) then ((I1 (ic1 + 2) x2.toNatClampNeg) - (x3 * r3)) else (0 : Int32))) - (if (0 : Int32) < (((I3 ic1 2) + x3) - r4) then (((I3 ic1 2) + x3) - r4) else (0 : Int32))) else (0 : Int32)))) I4 L4))))))))
set_option maxRecDepth 100000 in
set_option maxHeartbeats 4000000 in
theorem wX3_bearing_ok {G : jG} {l : Launch} {d : Nat} {ic1 : Nat} {Q : Option Value → jS → jL → Prop} (hic1 : isIce ic1) {x2 : Int32} {x3 : Int32} {I : jS} {L : jL} (h : wX3_bearing G l d ic1 x2 x3 I L Q) : cM G l mX3_bearing (d + 1) [.ref 23, .ref ic1, .int x2, .int x3] I L Q := by
  rw [wX3_bearing] at h
  show jCall G l yX3_bearing cX3_bearing 6 (some .int) (d + 1) 0 0 _ (jKS, I, L, jR0) _
  refine jCall_of (n0 := 2) (ls := [some (.ref 23), some (.ref ic1), some (.int x2), some (.int x3), none, none]) (by decide +kernel) rfl (Nat.le_of_ble_eq_true rfl) (jQm_of ?_)
  refine jr_iload_n dX3_bearing_0 rfl rfl ?_
  refine jr_callSN (mc2 := 0) (mc := 0) (ms2 := 0) (ms := 0) vm_X3_61 (av := [.int x2]) (st := []) rfl rfl (Nat.le_of_ble_eq_true rfl) dX3_bearing_1 (cI_use (M := (yX11_isSquare, cX11_isSquare, 1, some .boolean)) h ?_)
  intro r1 I1 L1 h
  refine jr_if_ne dX3_bearing_4 (tgt := 9) (by decide) (fun c => ?_) (fun c => ?_)
  · rw [if_neg c] at h
    refine jr_iconst dX3_bearing_9 kic_0 ?_
    refine jr_aload_n dX3_bearing_10 rfl rfl ?_
    refine jr_geta ff_X3_51 (ks_ice0 hic1) (rr_ice1 hic1) dX3_bearing_11 ?_
    refine jr_iload_n dX3_bearing_14 rfl rfl ?_
    obtain ⟨g2, h⟩ := h
    refine jv_iaload rfl rfl (ks_ice2 hic1) dX3_bearing_15 g2 ?_
    refine jr_iload_n dX3_bearing_16 rfl rfl ?_
    refine jr_aload_n dX3_bearing_17 rfl rfl ?_
    refine jr_geta ff_X3_9 ks_23 rr_23_0 dX3_bearing_18 ?_
    refine jr_iload_n dX3_bearing_21 rfl rfl ?_
    refine jr_iconst dX3_bearing_22 kic_1 ?_
    refine jr_callV (mc2 := 0) (mc := 0) (ms2 := 0) (ms := 0) vm_X3_65 (av := [.int x2, .int (1 : Int32)]) (st := [.int x3, .int (I1 (ic1 + 2) x2.toNatClampNeg), .int (0 : Int32)]) rfl rfl ks_1 (by decide) rfl (Nat.le_of_ble_eq_true rfl) dX3_bearing_23 (cI_use (M := (yX7_get, cX7_get, 4, some .int)) h ?_)
    intro r3 I3 L3 h
    refine jr_imul dX3_bearing_26 ?_
    refine jr_isub dX3_bearing_27 ?_
    refine jr_mmax mw_X3_74 (Nat.le_of_ble_eq_true rfl) dX3_bearing_28 ?_
    refine jr_istore dX3_bearing_31 (by decide) rfl ?_
    refine jr_iconst dX3_bearing_33 kic_0 ?_
    refine jr_aload_n dX3_bearing_34 rfl rfl ?_
    refine jv_geti rfl ff_X3_54 (ks_ice0 hic1) dX3_bearing_35 ?_
    refine jr_iload_n dX3_bearing_38 rfl rfl ?_
    refine jr_iadd dX3_bearing_39 ?_
    refine jr_aload_n dX3_bearing_40 rfl rfl ?_
    refine jr_geta ff_X3_9 ks_23 rr_23_0 dX3_bearing_41 ?_
    refine jr_iconst dX3_bearing_44 kic_0 ?_
    refine jr_bipush dX3_bearing_45 kbp_8 ?_
    refine jr_callV (mc2 := 0) (mc := 0) (ms2 := 0) (ms := 0) vm_X3_65 (av := [.int (0 : Int32), .int (8 : Int32)]) (st := [.int ((I3 ic1 2) + x3), .int (0 : Int32)]) rfl rfl ks_1 (by decide) rfl (Nat.le_of_ble_eq_true rfl) dX3_bearing_47 (cI_use (M := (yX7_get, cX7_get, 4, some .int)) h ?_)
    intro r4 I4 L4 h
    refine jr_isub dX3_bearing_50 ?_
    refine jr_mmax mw_X3_74 (Nat.le_of_ble_eq_true rfl) dX3_bearing_51 ?_
    refine jr_istore dX3_bearing_54 (by decide) rfl ?_
    refine jr_iconst dX3_bearing_56 kic_0 ?_
    refine jr_aload_n dX3_bearing_57 rfl rfl ?_
    refine jr_geta ff_X3_39 (ks_ice0 hic1) (rr_ice0 hic1) dX3_bearing_58 ?_
    refine jr_iload_n dX3_bearing_61 rfl rfl ?_
    refine jv_iaload rfl rfl (ks_ice1 hic1) dX3_bearing_62 g2 ?_
    refine jr_iload dX3_bearing_63 rfl ?_
    refine jr_isub dX3_bearing_65 ?_
    refine jr_iload dX3_bearing_66 rfl ?_
    refine jr_isub dX3_bearing_68 ?_
    refine jr_mmax mw_X3_74 (Nat.le_of_ble_eq_true rfl) dX3_bearing_69 ?_
    exact jr_ireturn dX3_bearing_72 ⟨Or.inr (Or.inl ⟨rfl, _, rfl⟩), _, _, rfl, h⟩
  · rw [if_pos c] at h
    refine jr_iconst dX3_bearing_7 kic_0 ?_
    exact jr_ireturn dX3_bearing_8 ⟨Or.inr (Or.inl ⟨rfl, _, rfl⟩), _, _, rfl, h⟩
def wX3_ready_50 (G : jG) (l : Launch) (d : Nat) (Q : Option Value → jS → jL → Prop) (x1 : Int32) (x2 : Int32) (t1 : Int32) (I : jS) (L : jL) : Prop := cI G l mX7_get d [.ref 1, .int x1, .int (6 : Int32)] (u2 I 23 2 t1) L (fun r1 I1 L1 => (cI G l mX7_get d [.ref 1, .int x1, .int (7 : Int32)] (u2 I1 23 3 (r1 + (x2 / (4 : Int32)))) L1 (fun r2 I2 L2 => (Q none (u2 I2 23 4 r2) L2))))
set_option maxRecDepth 100000 in
set_option maxHeartbeats 4000000 in
theorem wX3_ready_50_ok {G : jG} {l : Launch} {d : Nat} {Q : Option Value → jS → jL → Prop} : ∀ (x1 : Int32) (x2 : Int32) (t1 : Int32) (I : jS) (L : jL), wX3_ready_50 G l d Q x1 x2 t1 I L → J G l yX3_ready cX3_ready 4 (d + 1) 0 0 50 [some (.ref 23), some (.int x1), some (.int x2), none] [.int t1, .ref 23] (jKS, I, L, jR0) (jQm (none) Q) := by
  intro x1 x2 t1 I L h
  rw [wX3_ready_50] at h
  refine jr_puti ff_X3_19 ks_23 dX3_ready_50 ?_
  refine jr_aload_n dX3_ready_53 rfl rfl ?_
  refine jr_aload_n dX3_ready_54 rfl rfl ?_
  refine jr_geta ff_X3_9 ks_23 rr_23_0 dX3_ready_55 ?_
  refine jr_iload_n dX3_ready_58 rfl rfl ?_
  refine jr_bipush dX3_ready_59 kbp_6 ?_
  refine jr_callV (mc2 := 0) (mc := 0) (ms2 := 0) (ms := 0) vm_X3_65 (av := [.int x1, .int (6 : Int32)]) (st := [.ref 23]) rfl rfl ks_1 (by decide) rfl (Nat.le_of_ble_eq_true rfl) dX3_ready_61 (cI_use (M := (yX7_get, cX7_get, 4, some .int)) h ?_)
  intro r1 I1 L1 h
  refine jr_iload_n dX3_ready_64 rfl rfl ?_
  refine jr_iconst dX3_ready_65 kic_4 ?_
  refine jr_idiv dX3_ready_66 (by decide) ?_
  refine jr_iadd dX3_ready_67 ?_
  refine jr_puti ff_X3_23 ks_23 dX3_ready_68 ?_
  refine jr_aload_n dX3_ready_71 rfl rfl ?_
  refine jr_aload_n dX3_ready_72 rfl rfl ?_
  refine jr_geta ff_X3_9 ks_23 rr_23_0 dX3_ready_73 ?_
  refine jr_iload_n dX3_ready_76 rfl rfl ?_
  refine jr_bipush dX3_ready_77 kbp_7 ?_
  refine jr_callV (mc2 := 0) (mc := 0) (ms2 := 0) (ms := 0) vm_X3_65 (av := [.int x1, .int (7 : Int32)]) (st := [.ref 23]) rfl rfl ks_1 (by decide) rfl (Nat.le_of_ble_eq_true rfl) dX3_ready_79 (cI_use (M := (yX7_get, cX7_get, 4, some .int)) h ?_)
  intro r2 I2 L2 h
  refine jr_puti ff_X3_26 ks_23 dX3_ready_82 ?_
  exact jr_return dX3_ready_85 ⟨Or.inl ⟨rfl, rfl⟩, _, _, rfl, h⟩
def wX3_ready_18 (G : jG) (l : Launch) (d : Nat) (Q : Option Value → jS → jL → Prop) (x1 : Int32) (x2 : Int32) (t1 : Int32) (I : jS) (L : jL) : Prop := (t1 = 0 ∨ t1 = 1) ∧ (cI G l mX7_get d [.ref 1, .int x1, .int (4 : Int32)] (u2 I 23 5 t1) L (fun r2 I2 L2 => (if (I2 23 5) = 0 then (wX3_ready_50 G l d Q x1 x2 (r2 + x2) I2 L2) else (wX3_ready_50 G l d Q x1 x2 (((r2 + x2) + (1 : Int32)) / (2 : Int32)) I2 L2))))
set_option maxRecDepth 100000 in
set_option maxHeartbeats 4000000 in
theorem wX3_ready_18_ok {G : jG} {l : Launch} {d : Nat} {Q : Option Value → jS → jL → Prop} : ∀ (x1 : Int32) (x2 : Int32) (t1 : Int32) (I : jS) (L : jL), wX3_ready_18 G l d Q x1 x2 t1 I L → J G l yX3_ready cX3_ready 4 (d + 1) 0 0 18 [some (.ref 23), some (.int x1), some (.int x2), none] [.int t1, .ref 23] (jKS, I, L, jR0) (jQm (none) Q) := by
  intro x1 x2 t1 I L h
  rw [wX3_ready_18] at h
  obtain ⟨g1, h⟩ := h
  refine jr_putz ff_X3_29 ks_23 g1 dX3_ready_18 ?_
  refine jr_aload_n dX3_ready_21 rfl rfl ?_
  refine jr_geta ff_X3_9 ks_23 rr_23_0 dX3_ready_22 ?_
  refine jr_iload_n dX3_ready_25 rfl rfl ?_
  refine jr_iconst dX3_ready_26 kic_4 ?_
  refine jr_callV (mc2 := 0) (mc := 0) (ms2 := 0) (ms := 0) vm_X3_65 (av := [.int x1, .int (4 : Int32)]) (st := []) rfl rfl ks_1 (by decide) rfl (Nat.le_of_ble_eq_true rfl) dX3_ready_27 (cI_use (M := (yX7_get, cX7_get, 4, some .int)) h ?_)
  intro r2 I2 L2 h
  refine jr_iload_n dX3_ready_30 rfl rfl ?_
  refine jr_iadd dX3_ready_31 ?_
  refine jr_istore_n dX3_ready_32 rfl (by decide) rfl ?_
  refine jr_aload_n dX3_ready_33 rfl rfl ?_
  refine jr_aload_n dX3_ready_34 rfl rfl ?_
  refine jv_geti rfl ff_X3_29 ks_23 dX3_ready_35 ?_
  refine jr_if_eq dX3_ready_38 (tgt := 49) (by decide) (fun c => ?_) (fun c => ?_)
  · rw [if_pos c] at h
    refine jr_iload_n dX3_ready_49 rfl rfl ?_
    exact J.sub (wX3_ready_50_ok  _ _ _ _ _ h) (jsub_some (jsub_some (jsub_some (jsub_none jsub_nil))))
  · rw [if_neg c] at h
    refine jr_iload_n dX3_ready_41 rfl rfl ?_
    refine jr_iconst dX3_ready_42 kic_1 ?_
    refine jr_iadd dX3_ready_43 ?_
    refine jr_iconst dX3_ready_44 kic_2 ?_
    refine jr_idiv dX3_ready_45 (by decide) ?_
    refine jr_goto dX3_ready_46 (tgt := 50) (by decide) ?_
    exact J.sub (wX3_ready_50_ok  _ _ _ _ _ h) (jsub_some (jsub_some (jsub_some (jsub_none jsub_nil))))
def wX3_ready (G : jG) (l : Launch) (d : Nat) (x1 : Int32) (x2 : Int32) (I : jS) (L : jL) (Q : Option Value → jS → jL → Prop) : Prop := cI G l mX7_get d [.ref 1, .int x1, .int (5 : Int32)] I L (fun r1 I1 L1 => (if r1 = 0 then (wX3_ready_18 G l d Q x1 x2 (0 : Int32) I1 L1) else (wX3_ready_18 G l d Q x1 x2 (1 : Int32) I1 L1)))
set_option maxRecDepth 100000 in
set_option maxHeartbeats 4000000 in
theorem wX3_ready_ok {G : jG} {l : Launch} {d : Nat} {Q : Option Value → jS → jL → Prop} {x1 : Int32} {x2 : Int32} {I : jS} {L : jL} (h : wX3_ready G l d x1 x2 I L Q) : cM G l mX3_ready (d + 1) [.ref 23, .int x1, .int x2] I L Q := by
  rw [wX3_ready] at h
  show jCall G l yX3_ready cX3_ready 4 (none) (d + 1) 0 0 _ (jKS, I, L, jR0) _
  refine jCall_of (n0 := 1) (ls := [some (.ref 23), some (.int x1), some (.int x2), none]) (by decide +kernel) rfl (Nat.le_of_ble_eq_true rfl) (jQm_of ?_)
  refine jr_aload_n dX3_ready_0 rfl rfl ?_
  refine jr_aload_n dX3_ready_1 rfl rfl ?_
  refine jr_geta ff_X3_9 ks_23 rr_23_0 dX3_ready_2 ?_
  refine jr_iload_n dX3_ready_5 rfl rfl ?_
  refine jr_iconst dX3_ready_6 kic_5 ?_
  refine jr_callV (mc2 := 0) (mc := 0) (ms2 := 0) (ms := 0) vm_X3_65 (av := [.int x1, .int (5 : Int32)]) (st := [.ref 23]) rfl rfl ks_1 (by decide) rfl (Nat.le_of_ble_eq_true rfl) dX3_ready_7 (cI_use (M := (yX7_get, cX7_get, 4, some .int)) h ?_)
  intro r1 I1 L1 h
  refine jr_if_eq dX3_ready_10 (tgt := 17) (by decide) (fun c => ?_) (fun c => ?_)
  · rw [if_pos c] at h
    refine jr_iconst dX3_ready_17 kic_0 ?_
    exact J.sub (wX3_ready_18_ok  _ _ _ _ _ h) (jsub_some (jsub_some (jsub_some (jsub_none jsub_nil))))
  · rw [if_neg c] at h
    refine jr_iconst dX3_ready_13 kic_1 ?_
    refine jr_goto dX3_ready_14 (tgt := 18) (by decide) ?_
    exact J.sub (wX3_ready_18_ok  _ _ _ _ _ h) (jsub_some (jsub_some (jsub_some (jsub_none jsub_nil))))
def wX3_weaker_69 (G : jG) (l : Launch) (d : Nat) (ic1 : Nat) (Q : Option Value → jS → jL → Prop) (x4 : Int32) (I : jS) (L : jL) : Prop := Q (some (.int (if (0 : Int32) < (if x4 < (99 : Int32) then x4 else (99 : Int32)) then (if x4 < (99 : Int32) then x4 else (99 : Int32)) else (0 : Int32)))) I L
set_option maxRecDepth 100000 in
set_option maxHeartbeats 4000000 in
theorem wX3_weaker_69_ok {G : jG} {l : Launch} {d : Nat} {ic1 : Nat} {Q : Option Value → jS → jL → Prop} (hic1 : isIce ic1) : ∀ (x4 : Int32) (I : jS) (L : jL), wX3_weaker_69 G l d ic1 Q x4 I L → J G l yX3_weaker cX3_weaker 5 (d + 1) 0 0 69 [none, none, none, none, some (.int x4)] [] (jKS, I, L, jR0) (jQm (some .int) Q) := by
  intro x4 I L h
  rw [wX3_weaker_69] at h
  refine jr_iconst dX3_weaker_69 kic_0 ?_
  refine jr_bipush dX3_weaker_70 kbp_99 ?_
  refine jr_iload dX3_weaker_72 rfl ?_
  refine jr_mmin mw_X3_93 (Nat.le_of_ble_eq_true rfl) dX3_weaker_74 ?_
  refine jr_mmax mw_X3_74 (Nat.le_of_ble_eq_true rfl) dX3_weaker_77 ?_
  exact jr_ireturn dX3_weaker_80 ⟨Or.inr (Or.inl ⟨rfl, _, rfl⟩), _, _, rfl, h⟩
def wX3_weaker_20 (G : jG) (l : Launch) (d : Nat) (ic1 : Nat) (Q : Option Value → jS → jL → Prop) (x2 : Int32) (x3 : Int32) (t0 : Int32) (I : jS) (L : jL) : Prop := cI G l mX6_isTold d [.ref 17] I L (fun r1 I1 L1 => (if r1 = 0 then (wX3_weaker_69 G l d ic1 Q t0 I1 L1) else (cV G l mX6_name d [.ref 17, .int (I1 23 2), .int (I1 23 3), .int (I1 23 4), .int x3, .int (x2 - x2 / (8 : Int32) * (8 : Int32)), .int (I1 ic1 2)] I1 L1 (fun I2 L2 => (cI G l mX6_work d [.ref 17] I2 L2 (fun r3 I3 L3 => (wX3_weaker_69 G l d ic1 Q r3 I3 L3)))))))
set_option maxRecDepth 100000 in
set_option maxHeartbeats 4000000 in
theorem wX3_weaker_20_ok {G : jG} {l : Launch} {d : Nat} {ic1 : Nat} {Q : Option Value → jS → jL → Prop} (hic1 : isIce ic1) : ∀ (x2 : Int32) (x3 : Int32) (t0 : Int32) (I : jS) (L : jL), wX3_weaker_20 G l d ic1 Q x2 x3 t0 I L → J G l yX3_weaker cX3_weaker 5 (d + 1) 0 0 20 [some (.ref 23), some (.ref ic1), some (.int x2), some (.int x3), none] [.int t0] (jKS, I, L, jR0) (jQm (some .int) Q) := by
  intro x2 x3 t0 I L h
  rw [wX3_weaker_20] at h
  refine jr_istore dX3_weaker_20 (by decide) rfl ?_
  refine jr_aload_n dX3_weaker_22 rfl rfl ?_
  refine jr_geta ff_X3_15 ks_23 rr_23_1 dX3_weaker_23 ?_
  refine jr_callV (mc2 := 0) (mc := 0) (ms2 := 0) (ms := 0) vm_X3_79 (av := []) (st := []) rfl rfl ks_17 (by decide) rfl (Nat.le_of_ble_eq_true rfl) dX3_weaker_26 (cI_use (M := (yX6_isTold, cX6_isTold, 1, some .boolean)) h ?_)
  intro r1 I1 L1 h
  refine jr_if_eq dX3_weaker_29 (tgt := 69) (by decide) (fun c => ?_) (fun c => ?_)
  · rw [if_pos c] at h
    exact J.sub (wX3_weaker_69_ok hic1 _ _ _ h) (jsub_none (jsub_none (jsub_none (jsub_none (jsub_some jsub_nil)))))
  · rw [if_neg c] at h
    refine jr_aload_n dX3_weaker_32 rfl rfl ?_
    refine jr_geta ff_X3_15 ks_23 rr_23_1 dX3_weaker_33 ?_
    refine jr_aload_n dX3_weaker_36 rfl rfl ?_
    refine jv_geti rfl ff_X3_19 ks_23 dX3_weaker_37 ?_
    refine jr_aload_n dX3_weaker_40 rfl rfl ?_
    refine jv_geti rfl ff_X3_23 ks_23 dX3_weaker_41 ?_
    refine jr_aload_n dX3_weaker_44 rfl rfl ?_
    refine jv_geti rfl ff_X3_26 ks_23 dX3_weaker_45 ?_
    refine jr_iload_n dX3_weaker_48 rfl rfl ?_
    refine jr_iload_n dX3_weaker_49 rfl rfl ?_
    refine jr_bipush dX3_weaker_50 kbp_8 ?_
    refine jr_irem dX3_weaker_52 (by decide) ?_
    refine jr_aload_n dX3_weaker_53 rfl rfl ?_
    refine jv_geti rfl ff_X3_54 (ks_ice0 hic1) dX3_weaker_54 ?_
    refine jr_callV (mc2 := 0) (mc := 0) (ms2 := 0) (ms := 0) vm_X3_85 (av := [.int (I1 23 2), .int (I1 23 3), .int (I1 23 4), .int x3, .int (x2 - x2 / (8 : Int32) * (8 : Int32)), .int (I1 ic1 2)]) (st := []) rfl rfl ks_17 (by decide) rfl (Nat.le_of_ble_eq_true rfl) dX3_weaker_57 (cV_use (M := (yX6_name, cX6_name, 7, none)) h ?_)
    intro I2 L2 h
    refine jr_aload_n dX3_weaker_60 rfl rfl ?_
    refine jr_geta ff_X3_15 ks_23 rr_23_1 dX3_weaker_61 ?_
    refine jr_callV (mc2 := 0) (mc := 0) (ms2 := 0) (ms := 0) vm_X3_89 (av := []) (st := []) rfl rfl ks_17 (by decide) rfl (Nat.le_of_ble_eq_true rfl) dX3_weaker_64 (cI_use (M := (yX6_work, cX6_work, 5, some .int)) h ?_)
    intro r3 I3 L3 h
    refine jr_istore dX3_weaker_67 (by decide) rfl ?_
    exact J.sub (wX3_weaker_69_ok hic1 _ _ _ h) (jsub_none (jsub_none (jsub_none (jsub_none (jsub_some jsub_nil)))))
def wX3_weaker (G : jG) (l : Launch) (d : Nat) (ic1 : Nat) (x2 : Int32) (x3 : Int32) (I : jS) (L : jL) (Q : Option Value → jS → jL → Prop) : Prop := if (I 23 5) = 0 then (wX3_weaker_20 G l d ic1 Q x2 x3 (I 23 3) I L) else (wX3_weaker_20 G l d ic1 Q x2 x3 ((I 23 3) / (2 : Int32)) I L)
set_option maxRecDepth 100000 in
set_option maxHeartbeats 4000000 in
theorem wX3_weaker_ok {G : jG} {l : Launch} {d : Nat} {ic1 : Nat} {Q : Option Value → jS → jL → Prop} (hic1 : isIce ic1) {x2 : Int32} {x3 : Int32} {I : jS} {L : jL} (h : wX3_weaker G l d ic1 x2 x3 I L Q) : cM G l mX3_weaker (d + 1) [.ref 23, .ref ic1, .int x2, .int x3] I L Q := by
  rw [wX3_weaker] at h
  show jCall G l yX3_weaker cX3_weaker 5 (some .int) (d + 1) 0 0 _ (jKS, I, L, jR0) _
  refine jCall_of (n0 := 1) (ls := [some (.ref 23), some (.ref ic1), some (.int x2), some (.int x3), none]) (by decide +kernel) rfl (Nat.le_of_ble_eq_true rfl) (jQm_of ?_)
  refine jr_aload_n dX3_weaker_0 rfl rfl ?_
  refine jv_geti rfl ff_X3_29 ks_23 dX3_weaker_1 ?_
  refine jr_if_eq dX3_weaker_4 (tgt := 16) (by decide) (fun c => ?_) (fun c => ?_)
  · rw [if_pos c] at h
    refine jr_aload_n dX3_weaker_16 rfl rfl ?_
    refine jv_geti rfl ff_X3_23 ks_23 dX3_weaker_17 ?_
    exact J.sub (wX3_weaker_20_ok hic1 _ _ _ _ _ h) (jsub_some (jsub_some (jsub_some (jsub_some (jsub_none jsub_nil)))))
  · rw [if_neg c] at h
    refine jr_aload_n dX3_weaker_7 rfl rfl ?_
    refine jv_geti rfl ff_X3_23 ks_23 dX3_weaker_8 ?_
    refine jr_iconst dX3_weaker_11 kic_2 ?_
    refine jr_idiv dX3_weaker_12 (by decide) ?_
    refine jr_goto dX3_weaker_13 (tgt := 20) (by decide) ?_
    exact J.sub (wX3_weaker_20_ok hic1 _ _ _ _ _ h) (jsub_some (jsub_some (jsub_some (jsub_some (jsub_none jsub_nil)))))
def wX3_steps_49 (G : jG) (l : Launch) (d : Nat) (ic1 : Nat) (Q : Option Value → jS → jL → Prop) (x2 : Int32) (x4 : Int32) (t0 : Int32) (I : jS) (L : jL) : Prop := vp_in x2 24 ∧ ((x4 = 0 ∨ x4 = 1) ∧ Q (some (.int x4)) (u2 I (ic1 + 2) x2.toNatClampNeg (if ((I (ic1 + 2) x2.toNatClampNeg) + t0) < (99 : Int32) then ((I (ic1 + 2) x2.toNatClampNeg) + t0) else (99 : Int32))) L)
set_option maxRecDepth 100000 in
set_option maxHeartbeats 4000000 in
theorem wX3_steps_49_ok {G : jG} {l : Launch} {d : Nat} {ic1 : Nat} {Q : Option Value → jS → jL → Prop} (hic1 : isIce ic1) : ∀ (x2 : Int32) (x4 : Int32) (t0 : Int32) (I : jS) (L : jL), wX3_steps_49 G l d ic1 Q x2 x4 t0 I L → J G l yX3_steps cX3_steps 6 (d + 1) 0 0 49 [none, some (.ref ic1), some (.int x2), none, some (.int x4), none] [.int t0] (jKS, I, L, jR0) (jQm (some .boolean) Q) := by
  intro x2 x4 t0 I L h
  rw [wX3_steps_49] at h
  refine jr_istore dX3_steps_49 (by decide) rfl ?_
  refine jr_aload_n dX3_steps_51 rfl rfl ?_
  refine jr_geta ff_X3_51 (ks_ice0 hic1) (rr_ice1 hic1) dX3_steps_52 ?_
  refine jr_iload_n dX3_steps_55 rfl rfl ?_
  refine jr_bipush dX3_steps_56 kbp_99 ?_
  refine jr_aload_n dX3_steps_58 rfl rfl ?_
  refine jr_geta ff_X3_51 (ks_ice0 hic1) (rr_ice1 hic1) dX3_steps_59 ?_
  refine jr_iload_n dX3_steps_62 rfl rfl ?_
  obtain ⟨g1, h⟩ := h
  refine jv_iaload rfl rfl (ks_ice2 hic1) dX3_steps_63 g1 ?_
  refine jr_iload dX3_steps_64 rfl ?_
  refine jr_iadd dX3_steps_66 ?_
  refine jr_mmin mw_X3_93 (Nat.le_of_ble_eq_true rfl) dX3_steps_67 ?_
  refine jr_iastore rfl (ks_ice2 hic1) dX3_steps_70 g1 ?_
  refine jr_iload dX3_steps_71 rfl ?_
  obtain ⟨gz, h⟩ := h
  exact jr_ireturn dX3_steps_73 ⟨Or.inr (Or.inr (Or.inr ⟨rfl, gz.imp (fun e => by rw [e]) (fun e => by rw [e])⟩)), _, _, rfl, h⟩
def wX3_steps_30 (G : jG) (l : Launch) (d : Nat) (ic1 : Nat) (Q : Option Value → jS → jL → Prop) (x2 : Int32) (x3 : Int32) (t0 : Int32) (I : jS) (L : jL) : Prop := if t0 = 0 then (wX3_steps_49 G l d ic1 Q x2 t0 (99 : Int32) I L) else (cI G l mX3_weaker d [.ref 23, .ref ic1, .int x2, .int x3] I L (fun r1 I1 L1 => (wX3_steps_49 G l d ic1 Q x2 t0 r1 I1 L1)))
set_option maxRecDepth 100000 in
set_option maxHeartbeats 4000000 in
theorem wX3_steps_30_ok {G : jG} {l : Launch} {d : Nat} {ic1 : Nat} {Q : Option Value → jS → jL → Prop} (hic1 : isIce ic1) : ∀ (x2 : Int32) (x3 : Int32) (t0 : Int32) (I : jS) (L : jL), wX3_steps_30 G l d ic1 Q x2 x3 t0 I L → J G l yX3_steps cX3_steps 6 (d + 1) 0 0 30 [some (.ref 23), some (.ref ic1), some (.int x2), some (.int x3), none, none] [.int t0] (jKS, I, L, jR0) (jQm (some .boolean) Q) := by
  intro x2 x3 t0 I L h
  rw [wX3_steps_30] at h
  refine jr_istore dX3_steps_30 (by decide) rfl ?_
  refine jr_iload dX3_steps_32 rfl ?_
  refine jr_if_eq dX3_steps_34 (tgt := 47) (by decide) (fun c => ?_) (fun c => ?_)
  · rw [if_pos c] at h
    refine jr_bipush dX3_steps_47 kbp_99 ?_
    exact J.sub (wX3_steps_49_ok hic1 _ _ _ _ _ h) (jsub_none (jsub_some (jsub_some (jsub_none (jsub_some (jsub_none jsub_nil))))))
  · rw [if_neg c] at h
    refine jr_aload_n dX3_steps_37 rfl rfl ?_
    refine jr_aload_n dX3_steps_38 rfl rfl ?_
    refine jr_iload_n dX3_steps_39 rfl rfl ?_
    refine jr_iload_n dX3_steps_40 rfl rfl ?_
    refine jr_callV (mc2 := 0) (mc := 0) (ms2 := 0) (ms := 0) vm_X3_100 (av := [.ref ic1, .int x2, .int x3]) (st := []) rfl rfl ks_23 (by decide) rfl (Nat.le_of_ble_eq_true rfl) dX3_steps_41 (cI_use (M := (yX3_weaker, cX3_weaker, 5, some .int)) h ?_)
    intro r1 I1 L1 h
    refine jr_goto dX3_steps_44 (tgt := 49) (by decide) ?_
    exact J.sub (wX3_steps_49_ok hic1 _ _ _ _ _ h) (jsub_none (jsub_some (jsub_some (jsub_none (jsub_some (jsub_none jsub_nil))))))
def wX3_steps (G : jG) (l : Launch) (d : Nat) (ic1 : Nat) (x2 : Int32) (I : jS) (L : jL) (Q : Option Value → jS → jL → Prop) : Prop := cI G l mX11_isSquare d [.int x2] I L (fun r1 I1 L1 => (if r1 = 0 then (Q (some (.int (0 : Int32))) I1 L1) else (cI G l mX3_bearing d [.ref 23, .ref ic1, .int x2, .int (0 : Int32)] I1 L1 (fun r2 I2 L2 => (if r2 < (I2 23 2) then (wX3_steps_30 G l d ic1 Q x2 r2 (0 : Int32) I2 L2) else (wX3_steps_30 G l d ic1 Q x2 r2 (1 : Int32) I2 L2))))))
set_option maxRecDepth 100000 in
set_option maxHeartbeats 4000000 in
theorem wX3_steps_ok {G : jG} {l : Launch} {d : Nat} {ic1 : Nat} {Q : Option Value → jS → jL → Prop} (hic1 : isIce ic1) {x2 : Int32} {I : jS} {L : jL} (h : wX3_steps G l d ic1 x2 I L Q) : cM G l mX3_steps (d + 1) [.ref 23, .ref ic1, .int x2] I L Q := by
  rw [wX3_steps] at h
  show jCall G l yX3_steps cX3_steps 6 (some .boolean) (d + 1) 0 0 _ (jKS, I, L, jR0) _
  refine jCall_of (n0 := 3) (ls := [some (.ref 23), some (.ref ic1), some (.int x2), none, none, none]) (by decide +kernel) rfl (Nat.le_of_ble_eq_true rfl) (jQm_of ?_)
  refine jr_iload_n dX3_steps_0 rfl rfl ?_
  refine jr_callSN (mc2 := 0) (mc := 0) (ms2 := 0) (ms := 0) vm_X3_61 (av := [.int x2]) (st := []) rfl rfl (Nat.le_of_ble_eq_true rfl) dX3_steps_1 (cI_use (M := (yX11_isSquare, cX11_isSquare, 1, some .boolean)) h ?_)
  intro r1 I1 L1 h
  refine jr_if_ne dX3_steps_4 (tgt := 9) (by decide) (fun c => ?_) (fun c => ?_)
  · rw [if_neg c] at h
    refine jr_aload_n dX3_steps_9 rfl rfl ?_
    refine jr_aload_n dX3_steps_10 rfl rfl ?_
    refine jr_iload_n dX3_steps_11 rfl rfl ?_
    refine jr_iconst dX3_steps_12 kic_0 ?_
    refine jr_callV (mc2 := 0) (mc := 0) (ms2 := 0) (ms := 0) vm_X3_96 (av := [.ref ic1, .int x2, .int (0 : Int32)]) (st := []) rfl rfl ks_23 (by decide) rfl (Nat.le_of_ble_eq_true rfl) dX3_steps_13 (cI_use (M := (yX3_bearing, cX3_bearing, 6, some .int)) h ?_)
    intro r2 I2 L2 h
    refine jr_istore_n dX3_steps_16 rfl (by decide) rfl ?_
    refine jr_iload_n dX3_steps_17 rfl rfl ?_
    refine jr_aload_n dX3_steps_18 rfl rfl ?_
    refine jv_geti rfl ff_X3_19 ks_23 dX3_steps_19 ?_
    refine jr_icmp_lt dX3_steps_22 (tgt := 29) (by decide) (fun c => ?_) (fun c => ?_)
    · rw [if_pos c] at h
      refine jr_iconst dX3_steps_29 kic_0 ?_
      exact J.sub (wX3_steps_30_ok hic1 _ _ _ _ _ h) (jsub_some (jsub_some (jsub_some (jsub_some (jsub_none (jsub_none jsub_nil))))))
    · rw [if_neg c] at h
      refine jr_iconst dX3_steps_25 kic_1 ?_
      refine jr_goto dX3_steps_26 (tgt := 30) (by decide) ?_
      exact J.sub (wX3_steps_30_ok hic1 _ _ _ _ _ h) (jsub_some (jsub_some (jsub_some (jsub_some (jsub_none (jsub_none jsub_nil))))))
  · rw [if_pos c] at h
    refine jr_iconst dX3_steps_7 kic_0 ?_
    exact jr_ireturn dX3_steps_8 ⟨Or.inr (Or.inr (Or.inr ⟨rfl, Or.inl rfl⟩)), _, _, rfl, h⟩
def wX3_passBehind_22 (G : jG) (l : Launch) (d : Nat) (ic1 : Nat) (Q : Option Value → jS → jL → Prop) (t2 : Int32) (I : jS) (L : jL) : Prop := cV G l mX3_pass d [.ref 23, .ref ic1, .int t2] I L (fun I1 L1 => (Q none I1 L1))
set_option maxRecDepth 100000 in
set_option maxHeartbeats 4000000 in
theorem wX3_passBehind_22_ok {G : jG} {l : Launch} {d : Nat} {ic1 : Nat} {Q : Option Value → jS → jL → Prop} (hic1 : isIce ic1) : ∀ (t2 : Int32) (I : jS) (L : jL), wX3_passBehind_22 G l d ic1 Q t2 I L → J G l yX3_passBehind cX3_passBehind 2 (d + 1) 0 0 22 [none, none] [.int t2, .ref ic1, .ref 23] (jKS, I, L, jR0) (jQm (none) Q) := by
  intro t2 I L h
  rw [wX3_passBehind_22] at h
  refine jr_callV (mc2 := 0) (mc := 0) (ms2 := 0) (ms := 0) vm_X3_103 (av := [.ref ic1, .int t2]) (st := []) rfl rfl ks_23 (by decide) rfl (Nat.le_of_ble_eq_true rfl) dX3_passBehind_22 (cV_use (M := (yX3_pass, cX3_pass, 5, none)) h ?_)
  intro I1 L1 h
  exact jr_return dX3_passBehind_25 ⟨Or.inl ⟨rfl, rfl⟩, _, _, rfl, h⟩
def wX3_passBehind (G : jG) (l : Launch) (d : Nat) (ic1 : Nat) (I : jS) (L : jL) (Q : Option Value → jS → jL → Prop) : Prop := if (I 23 5) = 0 then (wX3_passBehind_22 G l d ic1 Q (I 23 4) I L) else (wX3_passBehind_22 G l d ic1 Q ((I 23 4) * (2 : Int32)) I L)
set_option maxRecDepth 100000 in
set_option maxHeartbeats 4000000 in
theorem wX3_passBehind_ok {G : jG} {l : Launch} {d : Nat} {ic1 : Nat} {Q : Option Value → jS → jL → Prop} (hic1 : isIce ic1) {I : jS} {L : jL} (h : wX3_passBehind G l d ic1 I L Q) : cM G l mX3_passBehind (d + 1) [.ref 23, .ref ic1] I L Q := by
  rw [wX3_passBehind] at h
  show jCall G l yX3_passBehind cX3_passBehind 2 (none) (d + 1) 0 0 _ (jKS, I, L, jR0) _
  refine jCall_of (n0 := 0) (ls := [some (.ref 23), some (.ref ic1)]) (by decide +kernel) rfl (Nat.le_of_ble_eq_true rfl) (jQm_of ?_)
  refine jr_aload_n dX3_passBehind_0 rfl rfl ?_
  refine jr_aload_n dX3_passBehind_1 rfl rfl ?_
  refine jr_aload_n dX3_passBehind_2 rfl rfl ?_
  refine jv_geti rfl ff_X3_29 ks_23 dX3_passBehind_3 ?_
  refine jr_if_eq dX3_passBehind_6 (tgt := 18) (by decide) (fun c => ?_) (fun c => ?_)
  · rw [if_pos c] at h
    refine jr_aload_n dX3_passBehind_18 rfl rfl ?_
    refine jv_geti rfl ff_X3_26 ks_23 dX3_passBehind_19 ?_
    exact J.sub (wX3_passBehind_22_ok hic1 _ _ _ h) (jsub_none (jsub_none jsub_nil))
  · rw [if_neg c] at h
    refine jr_aload_n dX3_passBehind_9 rfl rfl ?_
    refine jv_geti rfl ff_X3_26 ks_23 dX3_passBehind_10 ?_
    refine jr_iconst dX3_passBehind_13 kic_2 ?_
    refine jr_imul dX3_passBehind_14 ?_
    refine jr_goto dX3_passBehind_15 (tgt := 22) (by decide) ?_
    exact J.sub (wX3_passBehind_22_ok hic1 _ _ _ h) (jsub_none (jsub_none jsub_nil))
def wX3_pass_2 (G : jG) (l : Launch) (d : Nat) (ic1 : Nat) (Q : Option Value → jS → jL → Prop) : Nat → Int32 → Int32 → jS → jL → Prop
  | 0, _, _, _, _ => False
  | n2 + 1, x2, x3, I, L => if (24 : Int32) ≤ x3 then (Q none (u2 I ic1 2 ((I ic1 2) + x2)) L) else (cI G l mX7_get d [.ref 1, .int x3, .int (1 : Int32)] I L (fun r1 I1 L1 => (vp_in x3 24 ∧ ((wX3_pass_2 G l d ic1 Q n2) x2 (x3 + (1 : Int32)) (u2 I1 (ic1 + 2) x3.toNatClampNeg (if (0 : Int32) < ((I1 (ic1 + 2) x3.toNatClampNeg) - (x2 * r1)) then ((I1 (ic1 + 2) x3.toNatClampNeg) - (x2 * r1)) else (0 : Int32))) L1))))
set_option maxRecDepth 100000 in
set_option maxHeartbeats 4000000 in
theorem wX3_pass_2_ok {G : jG} {l : Launch} {d : Nat} {ic1 : Nat} {Q : Option Value → jS → jL → Prop} (hic1 : isIce ic1) : ∀ (n : Nat) (x2 : Int32) (x3 : Int32) (I : jS) (L : jL), wX3_pass_2 G l d ic1 Q n x2 x3 I L → J G l yX3_pass cX3_pass 5 (d + 1) 0 0 2 [some (.ref 23), some (.ref ic1), some (.int x2), some (.int x3), none] [] (jKS, I, L, jR0) (jQm (none) Q) := by
  intro n
  induction n with
  | zero => intro x2 x3 I L h; exact h.elim
  | succ n ih =>
    intro x2 x3 I L h
    rw [wX3_pass_2] at h
    refine jr_iload_n dX3_pass_2 rfl rfl ?_
    refine jr_bipush dX3_pass_3 kbp_24 ?_
    refine jr_icmp_ge dX3_pass_5 (tgt := 46) (by decide) (fun c => ?_) (fun c => ?_)
    · rw [if_pos c] at h
      refine jr_aload_n dX3_pass_46 rfl rfl ?_
      refine jr_dup dX3_pass_47 rfl ?_
      refine jv_geti rfl ff_X3_54 (ks_ice0 hic1) dX3_pass_48 ?_
      refine jr_iload_n dX3_pass_51 rfl rfl ?_
      refine jr_iadd dX3_pass_52 ?_
      refine jr_puti ff_X3_54 (ks_ice0 hic1) dX3_pass_53 ?_
      exact jr_return dX3_pass_56 ⟨Or.inl ⟨rfl, rfl⟩, _, _, rfl, h⟩
    · rw [if_neg c] at h
      refine jr_iload_n dX3_pass_8 rfl rfl ?_
      refine jr_aload_n dX3_pass_9 rfl rfl ?_
      refine jr_geta ff_X3_9 ks_23 rr_23_0 dX3_pass_10 ?_
      refine jr_iload_n dX3_pass_13 rfl rfl ?_
      refine jr_iconst dX3_pass_14 kic_1 ?_
      refine jr_callV (mc2 := 0) (mc := 0) (ms2 := 0) (ms := 0) vm_X3_65 (av := [.int x3, .int (1 : Int32)]) (st := [.int x2]) rfl rfl ks_1 (by decide) rfl (Nat.le_of_ble_eq_true rfl) dX3_pass_15 (cI_use (M := (yX7_get, cX7_get, 4, some .int)) h ?_)
      intro r1 I1 L1 h
      refine jr_imul dX3_pass_18 ?_
      refine jr_istore dX3_pass_19 (by decide) rfl ?_
      refine jr_aload_n dX3_pass_21 rfl rfl ?_
      refine jr_geta ff_X3_51 (ks_ice0 hic1) (rr_ice1 hic1) dX3_pass_22 ?_
      refine jr_iload_n dX3_pass_25 rfl rfl ?_
      refine jr_iconst dX3_pass_26 kic_0 ?_
      refine jr_aload_n dX3_pass_27 rfl rfl ?_
      refine jr_geta ff_X3_51 (ks_ice0 hic1) (rr_ice1 hic1) dX3_pass_28 ?_
      refine jr_iload_n dX3_pass_31 rfl rfl ?_
      obtain ⟨g2, h⟩ := h
      refine jv_iaload rfl rfl (ks_ice2 hic1) dX3_pass_32 g2 ?_
      refine jr_iload dX3_pass_33 rfl ?_
      refine jr_isub dX3_pass_35 ?_
      refine jr_mmax mw_X3_74 (Nat.le_of_ble_eq_true rfl) dX3_pass_36 ?_
      refine jr_iastore rfl (ks_ice2 hic1) dX3_pass_39 g2 ?_
      refine jr_iinc dX3_pass_40 rfl (by rw [kic_1]) (by decide) rfl ?_
      refine jr_goto dX3_pass_43 (tgt := 2) (by decide) ?_
      exact J.sub (ih _ _ _ _ h) (jsub_some (jsub_some (jsub_some (jsub_some (jsub_none jsub_nil)))))
def wX3_pass (G : jG) (l : Launch) (d : Nat) (ic1 : Nat) (x2 : Int32) (I : jS) (L : jL) (Q : Option Value → jS → jL → Prop) : Prop := ∃ e2 : Nat, wX3_pass_2 G l d ic1 Q e2 x2 (0 : Int32) I L
set_option maxRecDepth 100000 in
set_option maxHeartbeats 4000000 in
theorem wX3_pass_ok {G : jG} {l : Launch} {d : Nat} {ic1 : Nat} {Q : Option Value → jS → jL → Prop} (hic1 : isIce ic1) {x2 : Int32} {I : jS} {L : jL} (h : wX3_pass G l d ic1 x2 I L Q) : cM G l mX3_pass (d + 1) [.ref 23, .ref ic1, .int x2] I L Q := by
  rw [wX3_pass] at h
  show jCall G l yX3_pass cX3_pass 5 (none) (d + 1) 0 0 _ (jKS, I, L, jR0) _
  refine jCall_of (n0 := 2) (ls := [some (.ref 23), some (.ref ic1), some (.int x2), none, none]) (by decide +kernel) rfl (Nat.le_of_ble_eq_true rfl) (jQm_of ?_)
  refine jr_iconst dX3_pass_0 kic_0 ?_
  refine jr_istore_n dX3_pass_1 rfl (by decide) rfl ?_
  obtain ⟨e2, h⟩ := h
  exact J.sub (wX3_pass_2_ok hic1 e2 _ _ _ _ h) (jsub_some (jsub_some (jsub_some (jsub_some (jsub_none jsub_nil)))))
def wX3_cross_45 (G : jG) (l : Launch) (d : Nat) (ic1 : Nat) (k13 : Int32 → Int32 → Int32 → Int32 → jS → jL → Prop) (Q : Option Value → jS → jL → Prop) (x2 : Int32) (x5 : Int32) (x6 : Int32) (x7 : Int32) (t0 : Int32) (t1 : Int32) (I : jS) (L : jL) : Prop := cI G l mX3_steps d [.ref 23, .ref ic1, .int (t0 + t1)] I L (fun r1 I1 L1 => (if r1 = 0 then (k13 x2 x5 (t0 + t1) (x7 + (1 : Int32)) I1 L1) else (k13 x2 x5 x6 (x7 + (1 : Int32)) I1 L1)))
set_option maxRecDepth 100000 in
set_option maxHeartbeats 4000000 in
theorem wX3_cross_45_ok {G : jG} {l : Launch} {d : Nat} {ic1 : Nat} {Q : Option Value → jS → jL → Prop} (hic1 : isIce ic1) {k13 : Int32 → Int32 → Int32 → Int32 → jS → jL → Prop} (hk13 : ∀ (x2 : Int32) (x5 : Int32) (x6 : Int32) (x7 : Int32) (I : jS) (L : jL), k13 x2 x5 x6 x7 I L → J G l yX3_cross cX3_cross 9 (d + 1) 0 0 13 [some (.ref 23), some (.ref ic1), some (.int x2), none, none, some (.int x5), some (.int x6), some (.int x7), none] [] (jKS, I, L, jR0) (jQm (some .int) Q)) : ∀ (x2 : Int32) (x5 : Int32) (x6 : Int32) (x7 : Int32) (t0 : Int32) (t1 : Int32) (I : jS) (L : jL), wX3_cross_45 G l d ic1 k13 Q x2 x5 x6 x7 t0 t1 I L → J G l yX3_cross cX3_cross 9 (d + 1) 0 0 45 [some (.ref 23), some (.ref ic1), some (.int x2), none, none, some (.int x5), some (.int x6), some (.int x7), none] [.int t1, .int t0] (jKS, I, L, jR0) (jQm (some .int) Q) := by
  intro x2 x5 x6 x7 t0 t1 I L h
  rw [wX3_cross_45] at h
  refine jr_iadd dX3_cross_45 ?_
  refine jr_istore dX3_cross_46 (by decide) rfl ?_
  refine jr_aload_n dX3_cross_48 rfl rfl ?_
  refine jr_aload_n dX3_cross_49 rfl rfl ?_
  refine jr_iload dX3_cross_50 rfl ?_
  refine jr_callV (mc2 := 0) (mc := 0) (ms2 := 0) (ms := 0) vm_X3_110 (av := [.ref ic1, .int (t0 + t1)]) (st := []) rfl rfl ks_23 (by decide) rfl (Nat.le_of_ble_eq_true rfl) dX3_cross_52 (cI_use (M := (yX3_steps, cX3_steps, 6, some .boolean)) h ?_)
  intro r1 I1 L1 h
  refine jr_if_ne dX3_cross_55 (tgt := 62) (by decide) (fun c => ?_) (fun c => ?_)
  · rw [if_neg c] at h
    refine jr_iinc dX3_cross_62 rfl (by rw [kic_1]) (by decide) rfl ?_
    refine jr_goto dX3_cross_65 (tgt := 13) (by decide) ?_
    exact J.sub (hk13 _ _ _ _ _ _ h) (jsub_some (jsub_some (jsub_some (jsub_none (jsub_none (jsub_some (jsub_some (jsub_some (jsub_none jsub_nil)))))))))
  · rw [if_pos c] at h
    refine jr_iload dX3_cross_58 rfl ?_
    refine jr_istore dX3_cross_60 (by decide) rfl ?_
    refine jr_iinc dX3_cross_62 rfl (by rw [kic_1]) (by decide) rfl ?_
    refine jr_goto dX3_cross_65 (tgt := 13) (by decide) ?_
    exact J.sub (hk13 _ _ _ _ _ _ h) (jsub_some (jsub_some (jsub_some (jsub_none (jsub_none (jsub_some (jsub_some (jsub_some (jsub_none jsub_nil)))))))))
def wX3_cross_68 (G : jG) (l : Launch) (d : Nat) (ic1 : Nat) (Q : Option Value → jS → jL → Prop) (x6 : Int32) (I : jS) (L : jL) : Prop := cV G l mX3_passBehind d [.ref 23, .ref ic1] I L (fun I1 L1 => (Q (some (.int x6)) I1 L1))
set_option maxRecDepth 100000 in
set_option maxHeartbeats 4000000 in
theorem wX3_cross_68_ok {G : jG} {l : Launch} {d : Nat} {ic1 : Nat} {Q : Option Value → jS → jL → Prop} (hic1 : isIce ic1) : ∀ (x6 : Int32) (I : jS) (L : jL), wX3_cross_68 G l d ic1 Q x6 I L → J G l yX3_cross cX3_cross 9 (d + 1) 0 0 68 [some (.ref 23), some (.ref ic1), none, none, none, none, some (.int x6), none, none] [] (jKS, I, L, jR0) (jQm (some .int) Q) := by
  intro x6 I L h
  rw [wX3_cross_68] at h
  refine jr_aload_n dX3_cross_68 rfl rfl ?_
  refine jr_aload_n dX3_cross_69 rfl rfl ?_
  refine jr_callV (mc2 := 0) (mc := 0) (ms2 := 0) (ms := 0) vm_X3_114 (av := [.ref ic1]) (st := []) rfl rfl ks_23 (by decide) rfl (Nat.le_of_ble_eq_true rfl) dX3_cross_70 (cV_use (M := (yX3_passBehind, cX3_passBehind, 2, none)) h ?_)
  intro I1 L1 h
  refine jr_iload dX3_cross_73 rfl ?_
  exact jr_ireturn dX3_cross_75 ⟨Or.inr (Or.inl ⟨rfl, _, rfl⟩), _, _, rfl, h⟩
def wX3_cross_13 (G : jG) (l : Launch) (d : Nat) (ic1 : Nat) (Q : Option Value → jS → jL → Prop) : Nat → Int32 → Int32 → Int32 → Int32 → jS → jL → Prop
  | 0, _, _, _, _, _, _ => False
  | n13 + 1, x2, x5, x6, x7, I, L => if (8 : Int32) ≤ x7 then (wX3_cross_68 G l d ic1 Q x6 I L) else (if x6 = (-1 : Int32) then (if x5 = 0 then (wX3_cross_45 G l d ic1 (fun z0 z1 z2 z3 I L => wX3_cross_13 G l d ic1 Q n13 z0 z1 z2 z3 I L) Q x2 x5 x6 x7 (x2 * (8 : Int32)) x7 I L) else (wX3_cross_45 G l d ic1 (fun z0 z1 z2 z3 I L => wX3_cross_13 G l d ic1 Q n13 z0 z1 z2 z3 I L) Q x2 x5 x6 x7 (x2 * (8 : Int32)) ((7 : Int32) - x7) I L)) else (wX3_cross_68 G l d ic1 Q x6 I L))
set_option maxRecDepth 100000 in
set_option maxHeartbeats 4000000 in
theorem wX3_cross_13_ok {G : jG} {l : Launch} {d : Nat} {ic1 : Nat} {Q : Option Value → jS → jL → Prop} (hic1 : isIce ic1) : ∀ (n : Nat) (x2 : Int32) (x5 : Int32) (x6 : Int32) (x7 : Int32) (I : jS) (L : jL), wX3_cross_13 G l d ic1 Q n x2 x5 x6 x7 I L → J G l yX3_cross cX3_cross 9 (d + 1) 0 0 13 [some (.ref 23), some (.ref ic1), some (.int x2), none, none, some (.int x5), some (.int x6), some (.int x7), none] [] (jKS, I, L, jR0) (jQm (some .int) Q) := by
  intro n
  induction n with
  | zero => intro x2 x5 x6 x7 I L h; exact h.elim
  | succ n ih =>
    intro x2 x5 x6 x7 I L h
    rw [wX3_cross_13] at h
    refine jr_iload dX3_cross_13 rfl ?_
    refine jr_bipush dX3_cross_15 kbp_8 ?_
    refine jr_icmp_ge dX3_cross_17 (tgt := 68) (by decide) (fun c => ?_) (fun c => ?_)
    · rw [if_pos c] at h
      exact J.sub (wX3_cross_68_ok hic1 _ _ _ h) (jsub_some (jsub_some (jsub_none (jsub_none (jsub_none (jsub_none (jsub_some (jsub_none (jsub_none jsub_nil)))))))))
    · rw [if_neg c] at h
      refine jr_iload dX3_cross_20 rfl ?_
      refine jr_iconst dX3_cross_22 kic_m1 ?_
      refine jr_icmp_ne dX3_cross_23 (tgt := 68) (by decide) (fun c => ?_) (fun c => ?_)
      · rw [if_neg c] at h
        exact J.sub (wX3_cross_68_ok hic1 _ _ _ h) (jsub_some (jsub_some (jsub_none (jsub_none (jsub_none (jsub_none (jsub_some (jsub_none (jsub_none jsub_nil)))))))))
      · rw [if_pos c] at h
        refine jr_iload_n dX3_cross_26 rfl rfl ?_
        refine jr_bipush dX3_cross_27 kbp_8 ?_
        refine jr_imul dX3_cross_29 ?_
        refine jr_iload dX3_cross_30 rfl ?_
        refine jr_if_eq dX3_cross_32 (tgt := 43) (by decide) (fun c => ?_) (fun c => ?_)
        · rw [if_pos c] at h
          refine jr_iload dX3_cross_43 rfl ?_
          exact J.sub (wX3_cross_45_ok hic1 ih _ _ _ _ _ _ _ _ h) (jsub_some (jsub_some (jsub_some (jsub_none (jsub_none (jsub_some (jsub_some (jsub_some (jsub_none jsub_nil)))))))))
        · rw [if_neg c] at h
          refine jr_bipush dX3_cross_35 kbp_7 ?_
          refine jr_iload dX3_cross_37 rfl ?_
          refine jr_isub dX3_cross_39 ?_
          refine jr_goto dX3_cross_40 (tgt := 45) (by decide) ?_
          exact J.sub (wX3_cross_45_ok hic1 ih _ _ _ _ _ _ _ _ h) (jsub_some (jsub_some (jsub_some (jsub_none (jsub_none (jsub_some (jsub_some (jsub_some (jsub_none jsub_nil)))))))))
def wX3_cross (G : jG) (l : Launch) (d : Nat) (ic1 : Nat) (x2 : Int32) (x3 : Int32) (x4 : Int32) (x5 : Int32) (I : jS) (L : jL) (Q : Option Value → jS → jL → Prop) : Prop := cV G l mX3_ready d [.ref 23, .int x3, .int x4] I L (fun I1 L1 => (∃ e13 : Nat, wX3_cross_13 G l d ic1 Q e13 x2 x5 (-1 : Int32) (0 : Int32) I1 L1))
set_option maxRecDepth 100000 in
set_option maxHeartbeats 4000000 in
theorem wX3_cross_ok {G : jG} {l : Launch} {d : Nat} {ic1 : Nat} {Q : Option Value → jS → jL → Prop} (hic1 : isIce ic1) {x2 : Int32} {x3 : Int32} {x4 : Int32} {x5 : Int32} {I : jS} {L : jL} (h : wX3_cross G l d ic1 x2 x3 x4 x5 I L Q) : cM G l mX3_cross (d + 1) [.ref 23, .ref ic1, .int x2, .int x3, .int x4, .int x5] I L Q := by
  rw [wX3_cross] at h
  show jCall G l yX3_cross cX3_cross 9 (some .int) (d + 1) 0 0 _ (jKS, I, L, jR0) _
  refine jCall_of (n0 := 3) (ls := [some (.ref 23), some (.ref ic1), some (.int x2), some (.int x3), some (.int x4), some (.int x5), none, none, none]) (by decide +kernel) rfl (Nat.le_of_ble_eq_true rfl) (jQm_of ?_)
  refine jr_iconst dX3_cross_0 kic_m1 ?_
  refine jr_istore dX3_cross_1 (by decide) rfl ?_
  refine jr_aload_n dX3_cross_3 rfl rfl ?_
  refine jr_iload_n dX3_cross_4 rfl rfl ?_
  refine jr_iload dX3_cross_5 rfl ?_
  refine jr_callV (mc2 := 0) (mc := 0) (ms2 := 0) (ms := 0) vm_X3_106 (av := [.int x3, .int x4]) (st := []) rfl rfl ks_23 (by decide) rfl (Nat.le_of_ble_eq_true rfl) dX3_cross_7 (cV_use (M := (yX3_ready, cX3_ready, 4, none)) h ?_)
  intro I1 L1 h
  refine jr_iconst dX3_cross_10 kic_0 ?_
  refine jr_istore dX3_cross_11 (by decide) rfl ?_
  obtain ⟨e13, h⟩ := h
  exact J.sub (wX3_cross_13_ok hic1 e13 _ _ _ _ _ _ h) (jsub_some (jsub_some (jsub_some (jsub_none (jsub_none (jsub_some (jsub_some (jsub_some (jsub_none jsub_nil)))))))))
def wX3_firstWait_9 (G : jG) (l : Launch) (d : Nat) (ic1 : Nat) (Q : Option Value → jS → jL → Prop) : Nat → Int32 → Int32 → jS → jL → Prop
  | 0, _, _, _, _ => False
  | n9 + 1, x2, x4, I, L => if (60 : Int32) < x4 then (Q (some (.int (-1 : Int32))) I L) else (cI G l mX3_holdsBehind d [.ref 23, .ref ic1, .int x2, .int x4] I L (fun r1 I1 L1 => (if r1 = 0 then ((wX3_firstWait_9 G l d ic1 Q n9) x2 (x4 + (1 : Int32)) I1 L1) else (Q (some (.int x4)) I1 L1))))
set_option maxRecDepth 100000 in
set_option maxHeartbeats 4000000 in
theorem wX3_firstWait_9_ok {G : jG} {l : Launch} {d : Nat} {ic1 : Nat} {Q : Option Value → jS → jL → Prop} (hic1 : isIce ic1) : ∀ (n : Nat) (x2 : Int32) (x4 : Int32) (I : jS) (L : jL), wX3_firstWait_9 G l d ic1 Q n x2 x4 I L → J G l yX3_firstWait cX3_firstWait 5 (d + 1) 0 0 9 [some (.ref 23), some (.ref ic1), some (.int x2), none, some (.int x4)] [] (jKS, I, L, jR0) (jQm (some .int) Q) := by
  intro n
  induction n with
  | zero => intro x2 x4 I L h; exact h.elim
  | succ n ih =>
    intro x2 x4 I L h
    rw [wX3_firstWait_9] at h
    refine jr_iload dX3_firstWait_9 rfl ?_
    refine jr_bipush dX3_firstWait_11 kbp_60 ?_
    refine jr_icmp_gt dX3_firstWait_13 (tgt := 36) (by decide) (fun c => ?_) (fun c => ?_)
    · rw [if_pos c] at h
      refine jr_iconst dX3_firstWait_36 kic_m1 ?_
      exact jr_ireturn dX3_firstWait_37 ⟨Or.inr (Or.inl ⟨rfl, _, rfl⟩), _, _, rfl, h⟩
    · rw [if_neg c] at h
      refine jr_aload_n dX3_firstWait_16 rfl rfl ?_
      refine jr_aload_n dX3_firstWait_17 rfl rfl ?_
      refine jr_iload_n dX3_firstWait_18 rfl rfl ?_
      refine jr_iload dX3_firstWait_19 rfl ?_
      refine jr_callV (mc2 := 0) (mc := 0) (ms2 := 0) (ms := 0) vm_X3_117 (av := [.ref ic1, .int x2, .int x4]) (st := []) rfl rfl ks_23 (by decide) rfl (Nat.le_of_ble_eq_true rfl) dX3_firstWait_21 (cI_use (M := (yX3_holdsBehind, cX3_holdsBehind, 5, some .boolean)) h ?_)
      intro r1 I1 L1 h
      refine jr_if_eq dX3_firstWait_24 (tgt := 30) (by decide) (fun c => ?_) (fun c => ?_)
      · rw [if_pos c] at h
        refine jr_iinc dX3_firstWait_30 rfl (by rw [kic_1]) (by decide) rfl ?_
        refine jr_goto dX3_firstWait_33 (tgt := 9) (by decide) ?_
        exact J.sub (ih _ _ _ _ h) (jsub_some (jsub_some (jsub_some (jsub_none (jsub_some jsub_nil)))))
      · rw [if_neg c] at h
        refine jr_iload dX3_firstWait_27 rfl ?_
        exact jr_ireturn dX3_firstWait_29 ⟨Or.inr (Or.inl ⟨rfl, _, rfl⟩), _, _, rfl, h⟩
def wX3_firstWait (G : jG) (l : Launch) (d : Nat) (ic1 : Nat) (x2 : Int32) (x3 : Int32) (I : jS) (L : jL) (Q : Option Value → jS → jL → Prop) : Prop := cV G l mX3_ready d [.ref 23, .int x3, .int (0 : Int32)] I L (fun I1 L1 => (∃ e9 : Nat, wX3_firstWait_9 G l d ic1 Q e9 x2 (0 : Int32) I1 L1))
set_option maxRecDepth 100000 in
set_option maxHeartbeats 4000000 in
theorem wX3_firstWait_ok {G : jG} {l : Launch} {d : Nat} {ic1 : Nat} {Q : Option Value → jS → jL → Prop} (hic1 : isIce ic1) {x2 : Int32} {x3 : Int32} {I : jS} {L : jL} (h : wX3_firstWait G l d ic1 x2 x3 I L Q) : cM G l mX3_firstWait (d + 1) [.ref 23, .ref ic1, .int x2, .int x3] I L Q := by
  rw [wX3_firstWait] at h
  show jCall G l yX3_firstWait cX3_firstWait 5 (some .int) (d + 1) 0 0 _ (jKS, I, L, jR0) _
  refine jCall_of (n0 := 1) (ls := [some (.ref 23), some (.ref ic1), some (.int x2), some (.int x3), none]) (by decide +kernel) rfl (Nat.le_of_ble_eq_true rfl) (jQm_of ?_)
  refine jr_aload_n dX3_firstWait_0 rfl rfl ?_
  refine jr_iload_n dX3_firstWait_1 rfl rfl ?_
  refine jr_iconst dX3_firstWait_2 kic_0 ?_
  refine jr_callV (mc2 := 0) (mc := 0) (ms2 := 0) (ms := 0) vm_X3_106 (av := [.int x3, .int (0 : Int32)]) (st := []) rfl rfl ks_23 (by decide) rfl (Nat.le_of_ble_eq_true rfl) dX3_firstWait_3 (cV_use (M := (yX3_ready, cX3_ready, 4, none)) h ?_)
  intro I1 L1 h
  refine jr_iconst dX3_firstWait_6 kic_0 ?_
  refine jr_istore dX3_firstWait_7 (by decide) rfl ?_
  obtain ⟨e9, h⟩ := h
  exact J.sub (wX3_firstWait_9_ok hic1 e9 _ _ _ _ h) (jsub_some (jsub_some (jsub_some (jsub_none (jsub_some jsub_nil)))))
def wX3_holdsBehind_3 (G : jG) (l : Launch) (d : Nat) (ic1 : Nat) (Q : Option Value → jS → jL → Prop) : Nat → Int32 → Int32 → Int32 → jS → jL → Prop
  | 0, _, _, _, _, _ => False
  | n3 + 1, x2, x3, x4, I, L => if (8 : Int32) ≤ x4 then (Q (some (.int (1 : Int32))) I L) else (cI G l mX3_bearing d [.ref 23, .ref ic1, .int ((x2 * (8 : Int32)) + x4), .int x3] I L (fun r1 I1 L1 => (if (I1 23 2) ≤ r1 then ((wX3_holdsBehind_3 G l d ic1 Q n3) x2 x3 (x4 + (1 : Int32)) I1 L1) else (Q (some (.int (0 : Int32))) I1 L1))))
set_option maxRecDepth 100000 in
set_option maxHeartbeats 4000000 in
theorem wX3_holdsBehind_3_ok {G : jG} {l : Launch} {d : Nat} {ic1 : Nat} {Q : Option Value → jS → jL → Prop} (hic1 : isIce ic1) : ∀ (n : Nat) (x2 : Int32) (x3 : Int32) (x4 : Int32) (I : jS) (L : jL), wX3_holdsBehind_3 G l d ic1 Q n x2 x3 x4 I L → J G l yX3_holdsBehind cX3_holdsBehind 5 (d + 1) 0 0 3 [some (.ref 23), some (.ref ic1), some (.int x2), some (.int x3), some (.int x4)] [] (jKS, I, L, jR0) (jQm (some .boolean) Q) := by
  intro n
  induction n with
  | zero => intro x2 x3 x4 I L h; exact h.elim
  | succ n ih =>
    intro x2 x3 x4 I L h
    rw [wX3_holdsBehind_3] at h
    refine jr_iload dX3_holdsBehind_3 rfl ?_
    refine jr_bipush dX3_holdsBehind_5 kbp_8 ?_
    refine jr_icmp_ge dX3_holdsBehind_7 (tgt := 38) (by decide) (fun c => ?_) (fun c => ?_)
    · rw [if_pos c] at h
      refine jr_iconst dX3_holdsBehind_38 kic_1 ?_
      exact jr_ireturn dX3_holdsBehind_39 ⟨Or.inr (Or.inr (Or.inr ⟨rfl, Or.inr rfl⟩)), _, _, rfl, h⟩
    · rw [if_neg c] at h
      refine jr_aload_n dX3_holdsBehind_10 rfl rfl ?_
      refine jr_aload_n dX3_holdsBehind_11 rfl rfl ?_
      refine jr_iload_n dX3_holdsBehind_12 rfl rfl ?_
      refine jr_bipush dX3_holdsBehind_13 kbp_8 ?_
      refine jr_imul dX3_holdsBehind_15 ?_
      refine jr_iload dX3_holdsBehind_16 rfl ?_
      refine jr_iadd dX3_holdsBehind_18 ?_
      refine jr_iload_n dX3_holdsBehind_19 rfl rfl ?_
      refine jr_callV (mc2 := 0) (mc := 0) (ms2 := 0) (ms := 0) vm_X3_96 (av := [.ref ic1, .int ((x2 * (8 : Int32)) + x4), .int x3]) (st := []) rfl rfl ks_23 (by decide) rfl (Nat.le_of_ble_eq_true rfl) dX3_holdsBehind_20 (cI_use (M := (yX3_bearing, cX3_bearing, 6, some .int)) h ?_)
      intro r1 I1 L1 h
      refine jr_aload_n dX3_holdsBehind_23 rfl rfl ?_
      refine jv_geti rfl ff_X3_19 ks_23 dX3_holdsBehind_24 ?_
      refine jr_icmp_ge dX3_holdsBehind_27 (tgt := 32) (by decide) (fun c => ?_) (fun c => ?_)
      · rw [if_pos c] at h
        refine jr_iinc dX3_holdsBehind_32 rfl (by rw [kic_1]) (by decide) rfl ?_
        refine jr_goto dX3_holdsBehind_35 (tgt := 3) (by decide) ?_
        exact J.sub (ih _ _ _ _ _ h) (jsub_some (jsub_some (jsub_some (jsub_some (jsub_some jsub_nil)))))
      · rw [if_neg c] at h
        refine jr_iconst dX3_holdsBehind_30 kic_0 ?_
        exact jr_ireturn dX3_holdsBehind_31 ⟨Or.inr (Or.inr (Or.inr ⟨rfl, Or.inl rfl⟩)), _, _, rfl, h⟩
def wX3_holdsBehind (G : jG) (l : Launch) (d : Nat) (ic1 : Nat) (x2 : Int32) (x3 : Int32) (I : jS) (L : jL) (Q : Option Value → jS → jL → Prop) : Prop := ∃ e3 : Nat, wX3_holdsBehind_3 G l d ic1 Q e3 x2 x3 (0 : Int32) I L
set_option maxRecDepth 100000 in
set_option maxHeartbeats 4000000 in
theorem wX3_holdsBehind_ok {G : jG} {l : Launch} {d : Nat} {ic1 : Nat} {Q : Option Value → jS → jL → Prop} (hic1 : isIce ic1) {x2 : Int32} {x3 : Int32} {I : jS} {L : jL} (h : wX3_holdsBehind G l d ic1 x2 x3 I L Q) : cM G l mX3_holdsBehind (d + 1) [.ref 23, .ref ic1, .int x2, .int x3] I L Q := by
  rw [wX3_holdsBehind] at h
  show jCall G l yX3_holdsBehind cX3_holdsBehind 5 (some .boolean) (d + 1) 0 0 _ (jKS, I, L, jR0) _
  refine jCall_of (n0 := 1) (ls := [some (.ref 23), some (.ref ic1), some (.int x2), some (.int x3), none]) (by decide +kernel) rfl (Nat.le_of_ble_eq_true rfl) (jQm_of ?_)
  refine jr_iconst dX3_holdsBehind_0 kic_0 ?_
  refine jr_istore dX3_holdsBehind_1 (by decide) rfl ?_
  obtain ⟨e3, h⟩ := h
  exact J.sub (wX3_holdsBehind_3_ok hic1 e3 _ _ _ _ _ h) (jsub_some (jsub_some (jsub_some (jsub_some (jsub_some jsub_nil)))))

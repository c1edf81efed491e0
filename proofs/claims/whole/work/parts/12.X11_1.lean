def wX11_go (G : jG) (l : Launch) (d : Nat) (x1 : Int32) (x2 : Int32) (I : jS) (L : jL) (Q : Option Value → jS → jL → Prop) : Prop := cI G l mX11_isGoer d [.ref 0, .int x1] I L (fun r1 I1 L1 => (if r1 = 0 then (Q (some (.int (-1 : Int32))) I1 L1) else (cI G l mX11_isWay d [.int x2] I1 L1 (fun r2 I2 L2 => (if r2 = 0 then (Q (some (.int (-1 : Int32))) I2 L2) else (cV G l mX3_layStrength d [.ref 23, .ref 25] I2 L2 (fun I3 L3 => (cI G l mX3_cross d [.ref 23, .ref 25, .int x2, .int x1, .int (0 : Int32), .int (0 : Int32)] I3 L3 (fun r4 I4 L4 => (cI G l mX7_get d [.ref 1, .int x1, .int (4 : Int32)] I4 L4 (fun r5 I5 L5 => (cV G l mX4_lead d [.ref 24, .int r4, .int r5] I5 L5 (fun I6 L6 => (if r4 = (-1 : Int32) then (Q (some (.int (1 : Int32))) I6 L6) else (Q (some (.int (0 : Int32))) I6 L6)))))))))))))))
set_option maxRecDepth 100000 in
set_option maxHeartbeats 4000000 in
theorem wX11_go_ok {G : jG} {l : Launch} {d : Nat} {Q : Option Value → jS → jL → Prop} {x1 : Int32} {x2 : Int32} {I : jS} {L : jL} (h : wX11_go G l d x1 x2 I L Q) : cM G l mX11_go (d + 1) [.ref 0, .int x1, .int x2] I L Q := by
  rw [wX11_go] at h
  show jCall G l yX11_go cX11_go 4 (some .int) (d + 1) 0 0 _ (jKS, I, L, jR0) _
  refine jCall_of (n0 := 1) (ls := [some (.ref 0), some (.int x1), some (.int x2), none]) (by decide +kernel) rfl (Nat.le_of_ble_eq_true rfl) (jQm_of ?_)
  refine jr_aload_n dX11_go_0 rfl rfl ?_
  refine jr_iload_n dX11_go_1 rfl rfl ?_
  refine jr_callV (mc2 := 0) (mc := 0) (ms2 := 0) (ms := 0) vm_X11_220 (av := [.int x1]) (st := []) rfl rfl ks_0 (by decide) rfl (Nat.le_of_ble_eq_true rfl) dX11_go_2 (cI_use (M := (yX11_isGoer, cX11_isGoer, 2, some .boolean)) h ?_)
  intro r1 I1 L1 h
  refine jr_if_eq dX11_go_5 (tgt := 15) (by decide) (fun c => ?_) (fun c => ?_)
  · rw [if_pos c] at h
    refine jr_iconst dX11_go_15 kic_m1 ?_
    exact jr_ireturn dX11_go_16 ⟨Or.inr (Or.inl ⟨rfl, _, rfl⟩), _, _, rfl, h⟩
  · rw [if_neg c] at h
    refine jr_iload_n dX11_go_8 rfl rfl ?_
    refine jr_callS (mc2 := 0) (mc := 0) (ms2 := 0) (ms := 0) vm_X11_160 (av := [.int x2]) (st := []) rfl rfl (Nat.le_of_ble_eq_true rfl) dX11_go_9 (cI_use (M := (yX11_isWay, cX11_isWay, 1, some .boolean)) h ?_)
    intro r2 I2 L2 h
    refine jr_if_ne dX11_go_12 (tgt := 17) (by decide) (fun c => ?_) (fun c => ?_)
    · rw [if_neg c] at h
      refine jr_aload_n dX11_go_17 rfl rfl ?_
      refine jr_geta ff_X11_35 ks_0 rr_0_3 dX11_go_18 ?_
      refine jr_aload_n dX11_go_21 rfl rfl ?_
      refine jr_geta ff_X11_42 ks_0 rr_0_4 dX11_go_22 ?_
      refine jr_geta ff_X11_126 ks_24 rr_24_0 dX11_go_25 ?_
      refine jr_callV (mc2 := 0) (mc := 0) (ms2 := 0) (ms := 0) vm_X11_138 (av := [.ref 25]) (st := []) rfl rfl ks_23 (by decide) rfl (Nat.le_of_ble_eq_true rfl) dX11_go_28 (cV_use (M := (yX3_layStrength, cX3_layStrength, 2, none)) h ?_)
      intro I3 L3 h
      refine jr_aload_n dX11_go_31 rfl rfl ?_
      refine jr_geta ff_X11_35 ks_0 rr_0_3 dX11_go_32 ?_
      refine jr_aload_n dX11_go_35 rfl rfl ?_
      refine jr_geta ff_X11_42 ks_0 rr_0_4 dX11_go_36 ?_
      refine jr_geta ff_X11_126 ks_24 rr_24_0 dX11_go_39 ?_
      refine jr_iload_n dX11_go_42 rfl rfl ?_
      refine jr_iload_n dX11_go_43 rfl rfl ?_
      refine jr_iconst dX11_go_44 kic_0 ?_
      refine jr_iconst dX11_go_45 kic_0 ?_
      refine jr_callV (mc2 := 0) (mc := 0) (ms2 := 0) (ms := 0) vm_X11_272 (av := [.ref 25, .int x2, .int x1, .int (0 : Int32), .int (0 : Int32)]) (st := []) rfl rfl ks_23 (by decide) rfl (Nat.le_of_ble_eq_true rfl) dX11_go_46 (cI_use (M := (yX3_cross, cX3_cross, 9, some .int)) h ?_)
      intro r4 I4 L4 h
      refine jr_istore_n dX11_go_49 rfl (by decide) rfl ?_
      refine jr_aload_n dX11_go_50 rfl rfl ?_
      refine jr_geta ff_X11_42 ks_0 rr_0_4 dX11_go_51 ?_
      refine jr_iload_n dX11_go_54 rfl rfl ?_
      refine jr_aload_n dX11_go_55 rfl rfl ?_
      refine jr_geta ff_X11_10 ks_0 rr_0_0 dX11_go_56 ?_
      refine jr_iload_n dX11_go_59 rfl rfl ?_
      refine jr_iconst dX11_go_60 kic_4 ?_
      refine jr_callV (mc2 := 0) (mc := 0) (ms2 := 0) (ms := 0) vm_X11_115 (av := [.int x1, .int (4 : Int32)]) (st := [.int r4, .ref 24]) rfl rfl ks_1 (by decide) rfl (Nat.le_of_ble_eq_true rfl) dX11_go_61 (cI_use (M := (yX7_get, cX7_get, 4, some .int)) h ?_)
      intro r5 I5 L5 h
      refine jr_callV (mc2 := 0) (mc := 0) (ms2 := 0) (ms := 0) vm_X11_276 (av := [.int r4, .int r5]) (st := []) rfl rfl ks_24 (by decide) rfl (Nat.le_of_ble_eq_true rfl) dX11_go_64 (cV_use (M := (yX4_lead, cX4_lead, 3, none)) h ?_)
      intro I6 L6 h
      refine jr_iload_n dX11_go_67 rfl rfl ?_
      refine jr_iconst dX11_go_68 kic_m1 ?_
      refine jr_icmp_ne dX11_go_69 (tgt := 76) (by decide) (fun c => ?_) (fun c => ?_)
      · rw [if_neg c] at h
        refine jr_iconst dX11_go_76 kic_0 ?_
        exact jr_ireturn dX11_go_77 ⟨Or.inr (Or.inl ⟨rfl, _, rfl⟩), _, _, rfl, h⟩
      · rw [if_pos c] at h
        refine jr_iconst dX11_go_72 kic_1 ?_
        refine jr_goto dX11_go_73 (tgt := 77) (by decide) ?_
        exact jr_ireturn dX11_go_77 ⟨Or.inr (Or.inl ⟨rfl, _, rfl⟩), _, _, rfl, h⟩
    · rw [if_pos c] at h
      refine jr_iconst dX11_go_15 kic_m1 ?_
      exact jr_ireturn dX11_go_16 ⟨Or.inr (Or.inl ⟨rfl, _, rfl⟩), _, _, rfl, h⟩
def wX11_stay (G : jG) (l : Launch) (d : Nat) (x1 : Int32) (I : jS) (L : jL) (Q : Option Value → jS → jL → Prop) : Prop := if x1 < (1 : Int32) then (Q (some (.int (-1 : Int32))) I L) else (if x1 ≤ (999 : Int32) then (if ((I 25 2) + x1) ≤ (9999 : Int32) then (cV G l mX3_pass d [.ref 23, .ref 25, .int x1] I L (fun I1 L1 => (Q (some (.int (I1 25 2))) I1 L1))) else (Q (some (.int (-5 : Int32))) I L)) else (Q (some (.int (-1 : Int32))) I L))
set_option maxRecDepth 100000 in
set_option maxHeartbeats 4000000 in
theorem wX11_stay_ok {G : jG} {l : Launch} {d : Nat} {Q : Option Value → jS → jL → Prop} {x1 : Int32} {I : jS} {L : jL} (h : wX11_stay G l d x1 I L Q) : cM G l mX11_stay (d + 1) [.ref 0, .int x1] I L Q := by
  rw [wX11_stay] at h
  show jCall G l yX11_stay cX11_stay 2 (some .int) (d + 1) 0 0 _ (jKS, I, L, jR0) _
  refine jCall_of (n0 := 0) (ls := [some (.ref 0), some (.int x1)]) (by decide +kernel) rfl (Nat.le_of_ble_eq_true rfl) (jQm_of ?_)
  refine jr_iload_n dX11_stay_0 rfl rfl ?_
  refine jr_iconst dX11_stay_1 kic_1 ?_
  refine jr_icmp_lt dX11_stay_2 (tgt := 12) (by decide) (fun c => ?_) (fun c => ?_)
  · rw [if_pos c] at h
    refine jr_iconst dX11_stay_12 kic_m1 ?_
    exact jr_ireturn dX11_stay_13 ⟨Or.inr (Or.inl ⟨rfl, _, rfl⟩), _, _, rfl, h⟩
  · rw [if_neg c] at h
    refine jr_iload_n dX11_stay_5 rfl rfl ?_
    refine jr_sipush dX11_stay_6 ksp_999 ?_
    refine jr_icmp_le dX11_stay_9 (tgt := 14) (by decide) (fun c => ?_) (fun c => ?_)
    · rw [if_pos c] at h
      refine jr_aload_n dX11_stay_14 rfl rfl ?_
      refine jr_geta ff_X11_42 ks_0 rr_0_4 dX11_stay_15 ?_
      refine jr_geta ff_X11_126 ks_24 rr_24_0 dX11_stay_18 ?_
      refine jv_geti rfl ff_X11_130 ks_25 dX11_stay_21 ?_
      refine jr_iload_n dX11_stay_24 rfl rfl ?_
      refine jr_iadd dX11_stay_25 ?_
      refine jr_sipush dX11_stay_26 ksp_9999 ?_
      refine jr_icmp_le dX11_stay_29 (tgt := 35) (by decide) (fun c => ?_) (fun c => ?_)
      · rw [if_pos c] at h
        refine jr_aload_n dX11_stay_35 rfl rfl ?_
        refine jr_geta ff_X11_35 ks_0 rr_0_3 dX11_stay_36 ?_
        refine jr_aload_n dX11_stay_39 rfl rfl ?_
        refine jr_geta ff_X11_42 ks_0 rr_0_4 dX11_stay_40 ?_
        refine jr_geta ff_X11_126 ks_24 rr_24_0 dX11_stay_43 ?_
        refine jr_iload_n dX11_stay_46 rfl rfl ?_
        refine jr_callV (mc2 := 0) (mc := 0) (ms2 := 0) (ms := 0) vm_X11_279 (av := [.ref 25, .int x1]) (st := []) rfl rfl ks_23 (by decide) rfl (Nat.le_of_ble_eq_true rfl) dX11_stay_47 (cV_use (M := (yX3_pass, cX3_pass, 5, none)) h ?_)
        intro I1 L1 h
        refine jr_aload_n dX11_stay_50 rfl rfl ?_
        refine jr_geta ff_X11_42 ks_0 rr_0_4 dX11_stay_51 ?_
        refine jr_geta ff_X11_126 ks_24 rr_24_0 dX11_stay_54 ?_
        refine jv_geti rfl ff_X11_130 ks_25 dX11_stay_57 ?_
        exact jr_ireturn dX11_stay_60 ⟨Or.inr (Or.inl ⟨rfl, _, rfl⟩), _, _, rfl, h⟩
      · rw [if_neg c] at h
        refine jr_bipush dX11_stay_32 kbp_m5 ?_
        exact jr_ireturn dX11_stay_34 ⟨Or.inr (Or.inl ⟨rfl, _, rfl⟩), _, _, rfl, h⟩
    · rw [if_neg c] at h
      refine jr_iconst dX11_stay_12 kic_m1 ?_
      exact jr_ireturn dX11_stay_13 ⟨Or.inr (Or.inl ⟨rfl, _, rfl⟩), _, _, rfl, h⟩
def wX11_led (G : jG) (l : Launch) (d : Nat) (x1 : Int32) (I : jS) (L : jL) (Q : Option Value → jS → jL → Prop) : Prop := cI G l mX4_told d [.ref 24, .int x1] I L (fun r1 I1 L1 => (Q (some (.int r1)) I1 L1))
set_option maxRecDepth 100000 in
set_option maxHeartbeats 4000000 in
theorem wX11_led_ok {G : jG} {l : Launch} {d : Nat} {Q : Option Value → jS → jL → Prop} {x1 : Int32} {I : jS} {L : jL} (h : wX11_led G l d x1 I L Q) : cM G l mX11_led (d + 1) [.ref 0, .int x1] I L Q := by
  rw [wX11_led] at h
  show jCall G l yX11_led cX11_led 2 (some .int) (d + 1) 0 0 _ (jKS, I, L, jR0) _
  refine jCall_of (n0 := 0) (ls := [some (.ref 0), some (.int x1)]) (by decide +kernel) rfl (Nat.le_of_ble_eq_true rfl) (jQm_of ?_)
  refine jr_aload_n dX11_led_0 rfl rfl ?_
  refine jr_geta ff_X11_42 ks_0 rr_0_4 dX11_led_1 ?_
  refine jr_iload_n dX11_led_4 rfl rfl ?_
  refine jr_callV (mc2 := 0) (mc := 0) (ms2 := 0) (ms := 0) vm_X11_283 (av := [.int x1]) (st := []) rfl rfl ks_24 (by decide) rfl (Nat.le_of_ble_eq_true rfl) dX11_led_5 (cI_use (M := (yX4_told, cX4_told, 2, some .int)) h ?_)
  intro r1 I1 L1 h
  exact jr_ireturn dX11_led_8 ⟨Or.inr (Or.inl ⟨rfl, _, rfl⟩), _, _, rfl, h⟩
def wX11_image (G : jG) (l : Launch) (d : Nat) (I : jS) (L : jL) (Q : Option Value → jS → jL → Prop) : Prop := cV G l mX4_keepImage d [.ref 24] I L (fun I1 L1 => (Q (some (.int (I1 25 2))) I1 L1))
set_option maxRecDepth 100000 in
set_option maxHeartbeats 4000000 in
theorem wX11_image_ok {G : jG} {l : Launch} {d : Nat} {Q : Option Value → jS → jL → Prop} {I : jS} {L : jL} (h : wX11_image G l d I L Q) : cM G l mX11_image (d + 1) [.ref 0] I L Q := by
  rw [wX11_image] at h
  show jCall G l yX11_image cX11_image 1 (some .int) (d + 1) 0 0 _ (jKS, I, L, jR0) _
  refine jCall_of (n0 := 0) (ls := [some (.ref 0)]) (by decide +kernel) rfl (Nat.le_of_ble_eq_true rfl) (jQm_of ?_)
  refine jr_aload_n dX11_image_0 rfl rfl ?_
  refine jr_geta ff_X11_42 ks_0 rr_0_4 dX11_image_1 ?_
  refine jr_callV (mc2 := 0) (mc := 0) (ms2 := 0) (ms := 0) vm_X11_286 (av := []) (st := []) rfl rfl ks_24 (by decide) rfl (Nat.le_of_ble_eq_true rfl) dX11_image_4 (cV_use (M := (yX4_keepImage, cX4_keepImage, 1, none)) h ?_)
  intro I1 L1 h
  refine jr_aload_n dX11_image_7 rfl rfl ?_
  refine jr_geta ff_X11_42 ks_0 rr_0_4 dX11_image_8 ?_
  refine jr_geta ff_X11_126 ks_24 rr_24_0 dX11_image_11 ?_
  refine jv_geti rfl ff_X11_130 ks_25 dX11_image_14 ?_
  exact jr_ireturn dX11_image_17 ⟨Or.inr (Or.inl ⟨rfl, _, rfl⟩), _, _, rfl, h⟩
def wX11_back (G : jG) (l : Launch) (d : Nat) (I : jS) (L : jL) (Q : Option Value → jS → jL → Prop) : Prop := cI G l mX4_layImage d [.ref 24] I L (fun r1 I1 L1 => (if r1 = 0 then (Q (some (.int (-5 : Int32))) I1 L1) else (Q (some (.int (I1 25 2))) I1 L1)))
set_option maxRecDepth 100000 in
set_option maxHeartbeats 4000000 in
theorem wX11_back_ok {G : jG} {l : Launch} {d : Nat} {Q : Option Value → jS → jL → Prop} {I : jS} {L : jL} (h : wX11_back G l d I L Q) : cM G l mX11_back (d + 1) [.ref 0] I L Q := by
  rw [wX11_back] at h
  show jCall G l yX11_back cX11_back 1 (some .int) (d + 1) 0 0 _ (jKS, I, L, jR0) _
  refine jCall_of (n0 := 0) (ls := [some (.ref 0)]) (by decide +kernel) rfl (Nat.le_of_ble_eq_true rfl) (jQm_of ?_)
  refine jr_aload_n dX11_back_0 rfl rfl ?_
  refine jr_geta ff_X11_42 ks_0 rr_0_4 dX11_back_1 ?_
  refine jr_callV (mc2 := 0) (mc := 0) (ms2 := 0) (ms := 0) vm_X11_289 (av := []) (st := []) rfl rfl ks_24 (by decide) rfl (Nat.le_of_ble_eq_true rfl) dX11_back_4 (cI_use (M := (yX4_layImage, cX4_layImage, 1, some .boolean)) h ?_)
  intro r1 I1 L1 h
  refine jr_if_eq dX11_back_7 (tgt := 23) (by decide) (fun c => ?_) (fun c => ?_)
  · rw [if_pos c] at h
    refine jr_bipush dX11_back_23 kbp_m5 ?_
    exact jr_ireturn dX11_back_25 ⟨Or.inr (Or.inl ⟨rfl, _, rfl⟩), _, _, rfl, h⟩
  · rw [if_neg c] at h
    refine jr_aload_n dX11_back_10 rfl rfl ?_
    refine jr_geta ff_X11_42 ks_0 rr_0_4 dX11_back_11 ?_
    refine jr_geta ff_X11_126 ks_24 rr_24_0 dX11_back_14 ?_
    refine jv_geti rfl ff_X11_130 ks_25 dX11_back_17 ?_
    refine jr_goto dX11_back_20 (tgt := 25) (by decide) ?_
    exact jr_ireturn dX11_back_25 ⟨Or.inr (Or.inl ⟨rfl, _, rfl⟩), _, _, rfl, h⟩
def wX11_undo (G : jG) (l : Launch) (d : Nat) (I : jS) (L : jL) (Q : Option Value → jS → jL → Prop) : Prop := cI G l mX2_undoIn d [.ref 12, .ref 1] I L (fun r1 I1 L1 => (if r1 = 0 then (Q (some (.int (-5 : Int32))) I1 L1) else (Q (some (.int (I1 12 4))) I1 L1)))
set_option maxRecDepth 100000 in
set_option maxHeartbeats 4000000 in
theorem wX11_undo_ok {G : jG} {l : Launch} {d : Nat} {Q : Option Value → jS → jL → Prop} {I : jS} {L : jL} (h : wX11_undo G l d I L Q) : cM G l mX11_undo (d + 1) [.ref 0] I L Q := by
  rw [wX11_undo] at h
  show jCall G l yX11_undo cX11_undo 1 (some .int) (d + 1) 0 0 _ (jKS, I, L, jR0) _
  refine jCall_of (n0 := 0) (ls := [some (.ref 0)]) (by decide +kernel) rfl (Nat.le_of_ble_eq_true rfl) (jQm_of ?_)
  refine jr_aload_n dX11_undo_0 rfl rfl ?_
  refine jr_geta ff_X11_19 ks_0 rr_0_1 dX11_undo_1 ?_
  refine jr_aload_n dX11_undo_4 rfl rfl ?_
  refine jr_geta ff_X11_10 ks_0 rr_0_0 dX11_undo_5 ?_
  refine jr_callV (mc2 := 0) (mc := 0) (ms2 := 0) (ms := 0) vm_X11_293 (av := [.ref 1]) (st := []) rfl rfl ks_12 (by decide) rfl (Nat.le_of_ble_eq_true rfl) dX11_undo_8 (cI_use (M := (yX2_undoIn, cX2_undoIn, 2, some .boolean)) h ?_)
  intro r1 I1 L1 h
  refine jr_if_eq dX11_undo_11 (tgt := 24) (by decide) (fun c => ?_) (fun c => ?_)
  · rw [if_pos c] at h
    refine jr_bipush dX11_undo_24 kbp_m5 ?_
    exact jr_ireturn dX11_undo_26 ⟨Or.inr (Or.inl ⟨rfl, _, rfl⟩), _, _, rfl, h⟩
  · rw [if_neg c] at h
    refine jr_aload_n dX11_undo_14 rfl rfl ?_
    refine jr_geta ff_X11_19 ks_0 rr_0_1 dX11_undo_15 ?_
    refine jv_geti rfl ff_X11_297 ks_12 dX11_undo_18 ?_
    refine jr_goto dX11_undo_21 (tgt := 26) (by decide) ?_
    exact jr_ireturn dX11_undo_26 ⟨Or.inr (Or.inl ⟨rfl, _, rfl⟩), _, _, rfl, h⟩
def wX11_redo (G : jG) (l : Launch) (d : Nat) (I : jS) (L : jL) (Q : Option Value → jS → jL → Prop) : Prop := cI G l mX2_redoIn d [.ref 12, .ref 1] I L (fun r1 I1 L1 => (if r1 = 0 then (Q (some (.int (-5 : Int32))) I1 L1) else (Q (some (.int ((I1 12 5) - (I1 12 4)))) I1 L1)))
set_option maxRecDepth 100000 in
set_option maxHeartbeats 4000000 in
theorem wX11_redo_ok {G : jG} {l : Launch} {d : Nat} {Q : Option Value → jS → jL → Prop} {I : jS} {L : jL} (h : wX11_redo G l d I L Q) : cM G l mX11_redo (d + 1) [.ref 0] I L Q := by
  rw [wX11_redo] at h
  show jCall G l yX11_redo cX11_redo 1 (some .int) (d + 1) 0 0 _ (jKS, I, L, jR0) _
  refine jCall_of (n0 := 0) (ls := [some (.ref 0)]) (by decide +kernel) rfl (Nat.le_of_ble_eq_true rfl) (jQm_of ?_)
  refine jr_aload_n dX11_redo_0 rfl rfl ?_
  refine jr_geta ff_X11_19 ks_0 rr_0_1 dX11_redo_1 ?_
  refine jr_aload_n dX11_redo_4 rfl rfl ?_
  refine jr_geta ff_X11_10 ks_0 rr_0_0 dX11_redo_5 ?_
  refine jr_callV (mc2 := 0) (mc := 0) (ms2 := 0) (ms := 0) vm_X11_300 (av := [.ref 1]) (st := []) rfl rfl ks_12 (by decide) rfl (Nat.le_of_ble_eq_true rfl) dX11_redo_8 (cI_use (M := (yX2_redoIn, cX2_redoIn, 2, some .boolean)) h ?_)
  intro r1 I1 L1 h
  refine jr_if_eq dX11_redo_11 (tgt := 32) (by decide) (fun c => ?_) (fun c => ?_)
  · rw [if_pos c] at h
    refine jr_bipush dX11_redo_32 kbp_m5 ?_
    exact jr_ireturn dX11_redo_34 ⟨Or.inr (Or.inl ⟨rfl, _, rfl⟩), _, _, rfl, h⟩
  · rw [if_neg c] at h
    refine jr_aload_n dX11_redo_14 rfl rfl ?_
    refine jr_geta ff_X11_19 ks_0 rr_0_1 dX11_redo_15 ?_
    refine jv_geti rfl ff_X11_303 ks_12 dX11_redo_18 ?_
    refine jr_aload_n dX11_redo_21 rfl rfl ?_
    refine jr_geta ff_X11_19 ks_0 rr_0_1 dX11_redo_22 ?_
    refine jv_geti rfl ff_X11_297 ks_12 dX11_redo_25 ?_
    refine jr_isub dX11_redo_28 ?_
    refine jr_goto dX11_redo_29 (tgt := 34) (by decide) ?_
    exact jr_ireturn dX11_redo_34 ⟨Or.inr (Or.inl ⟨rfl, _, rfl⟩), _, _, rfl, h⟩
def wX11_body (G : jG) (l : Launch) (d : Nat) (x1 : Int32) (I : jS) (L : jL) (Q : Option Value → jS → jL → Prop) : Prop := cI G l mX11_isKind d [.int x1] I L (fun r1 I1 L1 => (if r1 = 0 then (Q (some (.int (-1 : Int32))) I1 L1) else (cI G l mX0_add d [.ref 68, .int x1] I1 L1 (fun r2 I2 L2 => (Q (some (.int r2)) I2 L2)))))
set_option maxRecDepth 100000 in
set_option maxHeartbeats 4000000 in
theorem wX11_body_ok {G : jG} {l : Launch} {d : Nat} {Q : Option Value → jS → jL → Prop} {x1 : Int32} {I : jS} {L : jL} (h : wX11_body G l d x1 I L Q) : cM G l mX11_body (d + 1) [.ref 0, .int x1] I L Q := by
  rw [wX11_body] at h
  show jCall G l yX11_body cX11_body 2 (some .int) (d + 1) 0 0 _ (jKS, I, L, jR0) _
  refine jCall_of (n0 := 0) (ls := [some (.ref 0), some (.int x1)]) (by decide +kernel) rfl (Nat.le_of_ble_eq_true rfl) (jQm_of ?_)
  refine jr_iload_n dX11_body_0 rfl rfl ?_
  refine jr_callS (mc2 := 0) (mc := 0) (ms2 := 0) (ms := 0) vm_X11_306 (av := [.int x1]) (st := []) rfl rfl (Nat.le_of_ble_eq_true rfl) dX11_body_1 (cI_use (M := (yX11_isKind, cX11_isKind, 1, some .boolean)) h ?_)
  intro r1 I1 L1 h
  refine jr_if_ne dX11_body_4 (tgt := 9) (by decide) (fun c => ?_) (fun c => ?_)
  · rw [if_neg c] at h
    refine jr_aload_n dX11_body_9 rfl rfl ?_
    refine jr_geta ff_X11_79 ks_0 rr_0_9 dX11_body_10 ?_
    refine jr_iload_n dX11_body_13 rfl rfl ?_
    refine jr_callV (mc2 := 0) (mc := 0) (ms2 := 0) (ms := 0) vm_X11_309 (av := [.int x1]) (st := []) rfl rfl ks_68 (by decide) rfl (Nat.le_of_ble_eq_true rfl) dX11_body_14 (cI_use (M := (yX0_add, cX0_add, 2, some .int)) h ?_)
    intro r2 I2 L2 h
    exact jr_ireturn dX11_body_17 ⟨Or.inr (Or.inl ⟨rfl, _, rfl⟩), _, _, rfl, h⟩
  · rw [if_pos c] at h
    refine jr_iconst dX11_body_7 kic_m1 ?_
    exact jr_ireturn dX11_body_8 ⟨Or.inr (Or.inl ⟨rfl, _, rfl⟩), _, _, rfl, h⟩
def wX11_act (G : jG) (l : Launch) (d : Nat) (x1 : Int32) (x2 : Int32) (x3 : Int32) (I : jS) (L : jL) (Q : Option Value → jS → jL → Prop) : Prop := cI G l mX0_start d [.ref 68, .int x1, .int x2, .int x3] I L (fun r1 I1 L1 => (Q (some (.int r1)) I1 L1))
set_option maxRecDepth 100000 in
set_option maxHeartbeats 4000000 in
theorem wX11_act_ok {G : jG} {l : Launch} {d : Nat} {Q : Option Value → jS → jL → Prop} {x1 : Int32} {x2 : Int32} {x3 : Int32} {I : jS} {L : jL} (h : wX11_act G l d x1 x2 x3 I L Q) : cM G l mX11_act (d + 1) [.ref 0, .int x1, .int x2, .int x3] I L Q := by
  rw [wX11_act] at h
  show jCall G l yX11_act cX11_act 4 (some .int) (d + 1) 0 0 _ (jKS, I, L, jR0) _
  refine jCall_of (n0 := 0) (ls := [some (.ref 0), some (.int x1), some (.int x2), some (.int x3)]) (by decide +kernel) rfl (Nat.le_of_ble_eq_true rfl) (jQm_of ?_)
  refine jr_aload_n dX11_act_0 rfl rfl ?_
  refine jr_geta ff_X11_79 ks_0 rr_0_9 dX11_act_1 ?_
  refine jr_iload_n dX11_act_4 rfl rfl ?_
  refine jr_iload_n dX11_act_5 rfl rfl ?_
  refine jr_iload_n dX11_act_6 rfl rfl ?_
  refine jr_callV (mc2 := 0) (mc := 0) (ms2 := 0) (ms := 0) vm_X11_311 (av := [.int x1, .int x2, .int x3]) (st := []) rfl rfl ks_68 (by decide) rfl (Nat.le_of_ble_eq_true rfl) dX11_act_7 (cI_use (M := (yX0_start, cX0_start, 5, some .int)) h ?_)
  intro r1 I1 L1 h
  exact jr_ireturn dX11_act_10 ⟨Or.inr (Or.inl ⟨rfl, _, rfl⟩), _, _, rfl, h⟩
def wX11_trace (G : jG) (l : Launch) (d : Nat) (x1 : Int32) (I : jS) (L : jL) (Q : Option Value → jS → jL → Prop) : Prop := cI G l mX0_traced d [.ref 68, .int x1] I L (fun r1 I1 L1 => (Q (some (.int r1)) I1 L1))
set_option maxRecDepth 100000 in
set_option maxHeartbeats 4000000 in
theorem wX11_trace_ok {G : jG} {l : Launch} {d : Nat} {Q : Option Value → jS → jL → Prop} {x1 : Int32} {I : jS} {L : jL} (h : wX11_trace G l d x1 I L Q) : cM G l mX11_trace (d + 1) [.ref 0, .int x1] I L Q := by
  rw [wX11_trace] at h
  show jCall G l yX11_trace cX11_trace 2 (some .int) (d + 1) 0 0 _ (jKS, I, L, jR0) _
  refine jCall_of (n0 := 0) (ls := [some (.ref 0), some (.int x1)]) (by decide +kernel) rfl (Nat.le_of_ble_eq_true rfl) (jQm_of ?_)
  refine jr_aload_n dX11_trace_0 rfl rfl ?_
  refine jr_geta ff_X11_79 ks_0 rr_0_9 dX11_trace_1 ?_
  refine jr_iload_n dX11_trace_4 rfl rfl ?_
  refine jr_callV (mc2 := 0) (mc := 0) (ms2 := 0) (ms := 0) vm_X11_314 (av := [.int x1]) (st := []) rfl rfl ks_68 (by decide) rfl (Nat.le_of_ble_eq_true rfl) dX11_trace_5 (cI_use (M := (yX0_traced, cX0_traced, 2, some .int)) h ?_)
  intro r1 I1 L1 h
  exact jr_ireturn dX11_trace_8 ⟨Or.inr (Or.inl ⟨rfl, _, rfl⟩), _, _, rfl, h⟩
def wX11_keep (G : jG) (l : Launch) (d : Nat) (x1 : Int32) (x2 : Int32) (I : jS) (L : jL) (Q : Option Value → jS → jL → Prop) : Prop := cI G l mX11_isShelf d [.int x1] I L (fun r1 I1 L1 => (if r1 = 0 then (Q (some (.int (-1 : Int32))) I1 L1) else (if x2 < (-1 : Int32) then (Q (some (.int (-1 : Int32))) I1 L1) else (if x2 < (I1 68 2) then (cV G l mX9_holdBody d [.ref 57, .int x1, .int x2] I1 L1 (fun I2 L2 => (Q (some (.int (1 : Int32))) I2 L2))) else (Q (some (.int (-1 : Int32))) I1 L1)))))
set_option maxRecDepth 100000 in
set_option maxHeartbeats 4000000 in
theorem wX11_keep_ok {G : jG} {l : Launch} {d : Nat} {Q : Option Value → jS → jL → Prop} {x1 : Int32} {x2 : Int32} {I : jS} {L : jL} (h : wX11_keep G l d x1 x2 I L Q) : cM G l mX11_keep (d + 1) [.ref 0, .int x1, .int x2] I L Q := by
  rw [wX11_keep] at h
  show jCall G l yX11_keep cX11_keep 3 (some .int) (d + 1) 0 0 _ (jKS, I, L, jR0) _
  refine jCall_of (n0 := 0) (ls := [some (.ref 0), some (.int x1), some (.int x2)]) (by decide +kernel) rfl (Nat.le_of_ble_eq_true rfl) (jQm_of ?_)
  refine jr_iload_n dX11_keep_0 rfl rfl ?_
  refine jr_callS (mc2 := 0) (mc := 0) (ms2 := 0) (ms := 0) vm_X11_95 (av := [.int x1]) (st := []) rfl rfl (Nat.le_of_ble_eq_true rfl) dX11_keep_1 (cI_use (M := (yX11_isShelf, cX11_isShelf, 1, some .boolean)) h ?_)
  intro r1 I1 L1 h
  refine jr_if_eq dX11_keep_4 (tgt := 23) (by decide) (fun c => ?_) (fun c => ?_)
  · rw [if_pos c] at h
    refine jr_iconst dX11_keep_23 kic_m1 ?_
    exact jr_ireturn dX11_keep_24 ⟨Or.inr (Or.inl ⟨rfl, _, rfl⟩), _, _, rfl, h⟩
  · rw [if_neg c] at h
    refine jr_iload_n dX11_keep_7 rfl rfl ?_
    refine jr_iconst dX11_keep_8 kic_m1 ?_
    refine jr_icmp_lt dX11_keep_9 (tgt := 23) (by decide) (fun c => ?_) (fun c => ?_)
    · rw [if_pos c] at h
      refine jr_iconst dX11_keep_23 kic_m1 ?_
      exact jr_ireturn dX11_keep_24 ⟨Or.inr (Or.inl ⟨rfl, _, rfl⟩), _, _, rfl, h⟩
    · rw [if_neg c] at h
      refine jr_iload_n dX11_keep_12 rfl rfl ?_
      refine jr_aload_n dX11_keep_13 rfl rfl ?_
      refine jr_geta ff_X11_79 ks_0 rr_0_9 dX11_keep_14 ?_
      refine jv_geti rfl ff_X11_317 ks_68 dX11_keep_17 ?_
      refine jr_icmp_lt dX11_keep_20 (tgt := 25) (by decide) (fun c => ?_) (fun c => ?_)
      · rw [if_pos c] at h
        refine jr_aload_n dX11_keep_25 rfl rfl ?_
        refine jr_geta ff_X11_72 ks_0 rr_0_8 dX11_keep_26 ?_
        refine jr_iload_n dX11_keep_29 rfl rfl ?_
        refine jr_iload_n dX11_keep_30 rfl rfl ?_
        refine jr_callV (mc2 := 0) (mc := 0) (ms2 := 0) (ms := 0) vm_X11_320 (av := [.int x1, .int x2]) (st := []) rfl rfl ks_57 (by decide) rfl (Nat.le_of_ble_eq_true rfl) dX11_keep_31 (cV_use (M := (yX9_holdBody, cX9_holdBody, 3, none)) h ?_)
        intro I2 L2 h
        refine jr_iconst dX11_keep_34 kic_1 ?_
        exact jr_ireturn dX11_keep_35 ⟨Or.inr (Or.inl ⟨rfl, _, rfl⟩), _, _, rfl, h⟩
      · rw [if_neg c] at h
        refine jr_iconst dX11_keep_23 kic_m1 ?_
        exact jr_ireturn dX11_keep_24 ⟨Or.inr (Or.inl ⟨rfl, _, rfl⟩), _, _, rfl, h⟩
def wX11_row (G : jG) (l : Launch) (d : Nat) (x1 : Int32) (x2 : Int32) (x3 : Int32) (I : jS) (L : jL) (Q : Option Value → jS → jL → Prop) : Prop := cI G l mX11_isShelf d [.int x1] I L (fun r1 I1 L1 => (if r1 = 0 then (Q (some (.int (-1 : Int32))) I1 L1) else (if x2 < 0 then (Q (some (.int (-1 : Int32))) I1 L1) else (if (4 : Int32) < x2 then (Q (some (.int (-1 : Int32))) I1 L1) else (if x3 ≤ (60 : Int32) then (if 0 ≤ x3 then (cV G l mX9_holdRow d [.ref 57, .int x1, .int x2, .int x3] I1 L1 (fun I2 L2 => (Q (some (.int (1 : Int32))) I2 L2))) else (Q (some (.int (-14 : Int32))) I1 L1)) else (Q (some (.int (-1 : Int32))) I1 L1))))))
set_option maxRecDepth 100000 in
set_option maxHeartbeats 4000000 in
theorem wX11_row_ok {G : jG} {l : Launch} {d : Nat} {Q : Option Value → jS → jL → Prop} {x1 : Int32} {x2 : Int32} {x3 : Int32} {I : jS} {L : jL} (h : wX11_row G l d x1 x2 x3 I L Q) : cM G l mX11_row (d + 1) [.ref 0, .int x1, .int x2, .int x3] I L Q := by
  rw [wX11_row] at h
  show jCall G l yX11_row cX11_row 4 (some .int) (d + 1) 0 0 _ (jKS, I, L, jR0) _
  refine jCall_of (n0 := 0) (ls := [some (.ref 0), some (.int x1), some (.int x2), some (.int x3)]) (by decide +kernel) rfl (Nat.le_of_ble_eq_true rfl) (jQm_of ?_)
  refine jr_iload_n dX11_row_0 rfl rfl ?_
  refine jr_callS (mc2 := 0) (mc := 0) (ms2 := 0) (ms := 0) vm_X11_95 (av := [.int x1]) (st := []) rfl rfl (Nat.le_of_ble_eq_true rfl) dX11_row_1 (cI_use (M := (yX11_isShelf, cX11_isShelf, 1, some .boolean)) h ?_)
  intro r1 I1 L1 h
  refine jr_if_eq dX11_row_4 (tgt := 22) (by decide) (fun c => ?_) (fun c => ?_)
  · rw [if_pos c] at h
    refine jr_iconst dX11_row_22 kic_m1 ?_
    exact jr_ireturn dX11_row_23 ⟨Or.inr (Or.inl ⟨rfl, _, rfl⟩), _, _, rfl, h⟩
  · rw [if_neg c] at h
    refine jr_iload_n dX11_row_7 rfl rfl ?_
    refine jr_if_lt dX11_row_8 (tgt := 22) (by decide) (fun c => ?_) (fun c => ?_)
    · rw [if_pos c] at h
      refine jr_iconst dX11_row_22 kic_m1 ?_
      exact jr_ireturn dX11_row_23 ⟨Or.inr (Or.inl ⟨rfl, _, rfl⟩), _, _, rfl, h⟩
    · rw [if_neg c] at h
      refine jr_iload_n dX11_row_11 rfl rfl ?_
      refine jr_iconst dX11_row_12 kic_4 ?_
      refine jr_icmp_gt dX11_row_13 (tgt := 22) (by decide) (fun c => ?_) (fun c => ?_)
      · rw [if_pos c] at h
        refine jr_iconst dX11_row_22 kic_m1 ?_
        exact jr_ireturn dX11_row_23 ⟨Or.inr (Or.inl ⟨rfl, _, rfl⟩), _, _, rfl, h⟩
      · rw [if_neg c] at h
        refine jr_iload_n dX11_row_16 rfl rfl ?_
        refine jr_bipush dX11_row_17 kbp_60 ?_
        refine jr_icmp_le dX11_row_19 (tgt := 24) (by decide) (fun c => ?_) (fun c => ?_)
        · rw [if_pos c] at h
          refine jr_iload_n dX11_row_24 rfl rfl ?_
          refine jr_if_ge dX11_row_25 (tgt := 31) (by decide) (fun c => ?_) (fun c => ?_)
          · rw [if_pos c] at h
            refine jr_aload_n dX11_row_31 rfl rfl ?_
            refine jr_geta ff_X11_72 ks_0 rr_0_8 dX11_row_32 ?_
            refine jr_iload_n dX11_row_35 rfl rfl ?_
            refine jr_iload_n dX11_row_36 rfl rfl ?_
            refine jr_iload_n dX11_row_37 rfl rfl ?_
            refine jr_callV (mc2 := 0) (mc := 0) (ms2 := 0) (ms := 0) vm_X11_323 (av := [.int x1, .int x2, .int x3]) (st := []) rfl rfl ks_57 (by decide) rfl (Nat.le_of_ble_eq_true rfl) dX11_row_38 (cV_use (M := (yX9_holdRow, cX9_holdRow, 4, none)) h ?_)
            intro I2 L2 h
            refine jr_iconst dX11_row_41 kic_1 ?_
            exact jr_ireturn dX11_row_42 ⟨Or.inr (Or.inl ⟨rfl, _, rfl⟩), _, _, rfl, h⟩
          · rw [if_neg c] at h
            refine jr_bipush dX11_row_28 kbp_m14 ?_
            exact jr_ireturn dX11_row_30 ⟨Or.inr (Or.inl ⟨rfl, _, rfl⟩), _, _, rfl, h⟩
        · rw [if_neg c] at h
          refine jr_iconst dX11_row_22 kic_m1 ?_
          exact jr_ireturn dX11_row_23 ⟨Or.inr (Or.inl ⟨rfl, _, rfl⟩), _, _, rfl, h⟩
def wX11_put (G : jG) (l : Launch) (d : Nat) (x1 : Int32) (x2 : Int32) (y3 : Int64) (I : jS) (L : jL) (Q : Option Value → jS → jL → Prop) : Prop := cI G l mX11_isShelf d [.int x1] I L (fun r1 I1 L1 => (if r1 = 0 then (Q (some (.int (-1 : Int32))) I1 L1) else (cI G l mX9_placeRefusal d [.ref 57, .int x1, .int x2] I1 L1 (fun r2 I2 L2 => (if r2 = 0 then (cV G l mX9_set d [.ref 57, .int x1, .int x2, .long y3] I2 L2 (fun I3 L3 => (Q (some (.int (1 : Int32))) I3 L3))) else (Q (some (.int r2)) I2 L2))))))
set_option maxRecDepth 100000 in
set_option maxHeartbeats 4000000 in
theorem wX11_put_ok {G : jG} {l : Launch} {d : Nat} {Q : Option Value → jS → jL → Prop} {x1 : Int32} {x2 : Int32} {y3 : Int64} {I : jS} {L : jL} (h : wX11_put G l d x1 x2 y3 I L Q) : cM G l mX11_put (d + 1) [.ref 0, .int x1, .int x2, .long y3] I L Q := by
  rw [wX11_put] at h
  show jCall G l yX11_put cX11_put 6 (some .int) (d + 1) 0 0 _ (jKS, I, L, jR0) _
  refine jCall_of (n0 := 1) (ls := [some (.ref 0), some (.int x1), some (.int x2), some (.long y3), none, none]) (by decide +kernel) rfl (Nat.le_of_ble_eq_true rfl) (jQm_of ?_)
  refine jr_iload_n dX11_put_0 rfl rfl ?_
  refine jr_callS (mc2 := 0) (mc := 0) (ms2 := 0) (ms := 0) vm_X11_95 (av := [.int x1]) (st := []) rfl rfl (Nat.le_of_ble_eq_true rfl) dX11_put_1 (cI_use (M := (yX11_isShelf, cX11_isShelf, 1, some .boolean)) h ?_)
  intro r1 I1 L1 h
  refine jr_if_ne dX11_put_4 (tgt := 9) (by decide) (fun c => ?_) (fun c => ?_)
  · rw [if_neg c] at h
    refine jr_aload_n dX11_put_9 rfl rfl ?_
    refine jr_geta ff_X11_72 ks_0 rr_0_8 dX11_put_10 ?_
    refine jr_iload_n dX11_put_13 rfl rfl ?_
    refine jr_iload_n dX11_put_14 rfl rfl ?_
    refine jr_callV (mc2 := 0) (mc := 0) (ms2 := 0) (ms := 0) vm_X11_326 (av := [.int x1, .int x2]) (st := []) rfl rfl ks_57 (by decide) rfl (Nat.le_of_ble_eq_true rfl) dX11_put_15 (cI_use (M := (yX9_placeRefusal, cX9_placeRefusal, 3, some .int)) h ?_)
    intro r2 I2 L2 h
    refine jr_istore dX11_put_18 (by decide) rfl ?_
    refine jr_iload dX11_put_20 rfl ?_
    refine jr_if_eq dX11_put_22 (tgt := 28) (by decide) (fun c => ?_) (fun c => ?_)
    · rw [if_pos c] at h
      refine jr_aload_n dX11_put_28 rfl rfl ?_
      refine jr_geta ff_X11_72 ks_0 rr_0_8 dX11_put_29 ?_
      refine jr_iload_n dX11_put_32 rfl rfl ?_
      refine jr_iload_n dX11_put_33 rfl rfl ?_
      refine jr_lload_n dX11_put_34 rfl rfl ?_
      refine jr_callV (mc2 := 0) (mc := 0) (ms2 := 0) (ms := 0) vm_X11_329 (av := [.int x1, .int x2, .long y3]) (st := []) rfl rfl ks_57 (by decide) rfl (Nat.le_of_ble_eq_true rfl) dX11_put_35 (cV_use (M := (yX9_set, cX9_set, 5, none)) h ?_)
      intro I3 L3 h
      refine jr_iconst dX11_put_38 kic_1 ?_
      exact jr_ireturn dX11_put_39 ⟨Or.inr (Or.inl ⟨rfl, _, rfl⟩), _, _, rfl, h⟩
    · rw [if_neg c] at h
      refine jr_iload dX11_put_25 rfl ?_
      exact jr_ireturn dX11_put_27 ⟨Or.inr (Or.inl ⟨rfl, _, rfl⟩), _, _, rfl, h⟩
  · rw [if_pos c] at h
    refine jr_iconst dX11_put_7 kic_m1 ?_
    exact jr_ireturn dX11_put_8 ⟨Or.inr (Or.inl ⟨rfl, _, rfl⟩), _, _, rfl, h⟩
def wX11_element (G : jG) (l : Launch) (d : Nat) (x1 : Int32) (x2 : Int32) (I : jS) (L : jL) (Q : Option Value → jS → jL → Prop) : Prop := cI G l mX11_isShelf d [.int x1] I L (fun r1 I1 L1 => (if r1 = 0 then (Q (some (.long (-9223372036854775808 : Int64))) I1 L1) else (cI G l mX9_placeRefusal d [.ref 57, .int x1, .int x2] I1 L1 (fun r2 I2 L2 => (if r2 = 0 then (cJ G l mX9_get d [.ref 57, .int x1, .int x2] I2 L2 (fun r3 I3 L3 => (Q (some (.long r3)) I3 L3))) else (Q (some (.long (-9223372036854775808 : Int64))) I2 L2))))))
set_option maxRecDepth 100000 in
set_option maxHeartbeats 4000000 in
theorem wX11_element_ok {G : jG} {l : Launch} {d : Nat} {Q : Option Value → jS → jL → Prop} {x1 : Int32} {x2 : Int32} {I : jS} {L : jL} (h : wX11_element G l d x1 x2 I L Q) : cM G l mX11_element (d + 1) [.ref 0, .int x1, .int x2] I L Q := by
  rw [wX11_element] at h
  show jCall G l yX11_element cX11_element 3 (some .long) (d + 1) 0 0 _ (jKS, I, L, jR0) _
  refine jCall_of (n0 := 0) (ls := [some (.ref 0), some (.int x1), some (.int x2)]) (by decide +kernel) rfl (Nat.le_of_ble_eq_true rfl) (jQm_of ?_)
  refine jr_iload_n dX11_element_0 rfl rfl ?_
  refine jr_callS (mc2 := 0) (mc := 0) (ms2 := 0) (ms := 0) vm_X11_95 (av := [.int x1]) (st := []) rfl rfl (Nat.le_of_ble_eq_true rfl) dX11_element_1 (cI_use (M := (yX11_isShelf, cX11_isShelf, 1, some .boolean)) h ?_)
  intro r1 I1 L1 h
  refine jr_if_eq dX11_element_4 (tgt := 19) (by decide) (fun c => ?_) (fun c => ?_)
  · rw [if_pos c] at h
    refine jr_ldc2 kl_X11_231 dX11_element_19 ?_
    exact jr_lreturn dX11_element_22 ⟨Or.inr (Or.inr (Or.inl ⟨rfl, _, rfl⟩)), _, _, rfl, h⟩
  · rw [if_neg c] at h
    refine jr_aload_n dX11_element_7 rfl rfl ?_
    refine jr_geta ff_X11_72 ks_0 rr_0_8 dX11_element_8 ?_
    refine jr_iload_n dX11_element_11 rfl rfl ?_
    refine jr_iload_n dX11_element_12 rfl rfl ?_
    refine jr_callV (mc2 := 0) (mc := 0) (ms2 := 0) (ms := 0) vm_X11_326 (av := [.int x1, .int x2]) (st := []) rfl rfl ks_57 (by decide) rfl (Nat.le_of_ble_eq_true rfl) dX11_element_13 (cI_use (M := (yX9_placeRefusal, cX9_placeRefusal, 3, some .int)) h ?_)
    intro r2 I2 L2 h
    refine jr_if_eq dX11_element_16 (tgt := 23) (by decide) (fun c => ?_) (fun c => ?_)
    · rw [if_pos c] at h
      refine jr_aload_n dX11_element_23 rfl rfl ?_
      refine jr_geta ff_X11_72 ks_0 rr_0_8 dX11_element_24 ?_
      refine jr_iload_n dX11_element_27 rfl rfl ?_
      refine jr_iload_n dX11_element_28 rfl rfl ?_
      refine jr_callV (mc2 := 0) (mc := 0) (ms2 := 0) (ms := 0) vm_X11_332 (av := [.int x1, .int x2]) (st := []) rfl rfl ks_57 (by decide) rfl (Nat.le_of_ble_eq_true rfl) dX11_element_29 (cJ_use (M := (yX9_get, cX9_get, 3, some .long)) h ?_)
      intro r3 I3 L3 h
      exact jr_lreturn dX11_element_32 ⟨Or.inr (Or.inr (Or.inl ⟨rfl, _, rfl⟩)), _, _, rfl, h⟩
    · rw [if_neg c] at h
      refine jr_ldc2 kl_X11_231 dX11_element_19 ?_
      exact jr_lreturn dX11_element_22 ⟨Or.inr (Or.inr (Or.inl ⟨rfl, _, rfl⟩)), _, _, rfl, h⟩
def wX11_shift (G : jG) (l : Launch) (d : Nat) (x1 : Int32) (x2 : Int32) (x3 : Int32) (x4 : Int32) (x5 : Int32) (I : jS) (L : jL) (Q : Option Value → jS → jL → Prop) : Prop := cI G l mX11_isShelf d [.int x1] I L (fun r1 I1 L1 => (if r1 = 0 then (Q (some (.int (-1 : Int32))) I1 L1) else (cI G l mX11_isShelf d [.int x3] I1 L1 (fun r2 I2 L2 => (if r2 = 0 then (Q (some (.int (-1 : Int32))) I2 L2) else (cI G l mX9_isEmpty d [.ref 57, .int x1] I2 L2 (fun r3 I3 L3 => (if r3 = 0 then (cI G l mX9_isEmpty d [.ref 57, .int x3] I3 L3 (fun r4 I4 L4 => (if r4 = 0 then (cI G l mX9_areAlike d [.ref 57, .int x1, .int x3] I4 L4 (fun r5 I5 L5 => (if r5 = 0 then (Q (some (.int (-12 : Int32))) I5 L5) else (cI G l mX9_hasSpan d [.ref 57, .int x1, .int x2, .int x5] I5 L5 (fun r6 I6 L6 => (if r6 = 0 then (Q (some (.int (-13 : Int32))) I6 L6) else (cI G l mX9_hasSpan d [.ref 57, .int x3, .int x4, .int x5] I6 L6 (fun r7 I7 L7 => (if r7 = 0 then (Q (some (.int (-13 : Int32))) I7 L7) else (cV G l mX9_move d [.ref 57, .int x1, .int x2, .int x3, .int x4, .int x5] I7 L7 (fun I8 L8 => (Q (some (.int x5)) I8 L8)))))))))))) else (Q (some (.int (-11 : Int32))) I4 L4)))) else (Q (some (.int (-11 : Int32))) I3 L3)))))))))
set_option maxRecDepth 100000 in
set_option maxHeartbeats 4000000 in
theorem wX11_shift_ok {G : jG} {l : Launch} {d : Nat} {Q : Option Value → jS → jL → Prop} {x1 : Int32} {x2 : Int32} {x3 : Int32} {x4 : Int32} {x5 : Int32} {I : jS} {L : jL} (h : wX11_shift G l d x1 x2 x3 x4 x5 I L Q) : cM G l mX11_shift (d + 1) [.ref 0, .int x1, .int x2, .int x3, .int x4, .int x5] I L Q := by
  rw [wX11_shift] at h
  show jCall G l yX11_shift cX11_shift 6 (some .int) (d + 1) 0 0 _ (jKS, I, L, jR0) _
  refine jCall_of (n0 := 0) (ls := [some (.ref 0), some (.int x1), some (.int x2), some (.int x3), some (.int x4), some (.int x5)]) (by decide +kernel) rfl (Nat.le_of_ble_eq_true rfl) (jQm_of ?_)
  refine jr_iload_n dX11_shift_0 rfl rfl ?_
  refine jr_callS (mc2 := 0) (mc := 0) (ms2 := 0) (ms := 0) vm_X11_95 (av := [.int x1]) (st := []) rfl rfl (Nat.le_of_ble_eq_true rfl) dX11_shift_1 (cI_use (M := (yX11_isShelf, cX11_isShelf, 1, some .boolean)) h ?_)
  intro r1 I1 L1 h
  refine jr_if_eq dX11_shift_4 (tgt := 14) (by decide) (fun c => ?_) (fun c => ?_)
  · rw [if_pos c] at h
    refine jr_iconst dX11_shift_14 kic_m1 ?_
    exact jr_ireturn dX11_shift_15 ⟨Or.inr (Or.inl ⟨rfl, _, rfl⟩), _, _, rfl, h⟩
  · rw [if_neg c] at h
    refine jr_iload_n dX11_shift_7 rfl rfl ?_
    refine jr_callS (mc2 := 0) (mc := 0) (ms2 := 0) (ms := 0) vm_X11_95 (av := [.int x3]) (st := []) rfl rfl (Nat.le_of_ble_eq_true rfl) dX11_shift_8 (cI_use (M := (yX11_isShelf, cX11_isShelf, 1, some .boolean)) h ?_)
    intro r2 I2 L2 h
    refine jr_if_ne dX11_shift_11 (tgt := 16) (by decide) (fun c => ?_) (fun c => ?_)
    · rw [if_neg c] at h
      refine jr_aload_n dX11_shift_16 rfl rfl ?_
      refine jr_geta ff_X11_72 ks_0 rr_0_8 dX11_shift_17 ?_
      refine jr_iload_n dX11_shift_20 rfl rfl ?_
      refine jr_callV (mc2 := 0) (mc := 0) (ms2 := 0) (ms := 0) vm_X11_99 (av := [.int x1]) (st := []) rfl rfl ks_57 (by decide) rfl (Nat.le_of_ble_eq_true rfl) dX11_shift_21 (cI_use (M := (yX9_isEmpty, cX9_isEmpty, 2, some .boolean)) h ?_)
      intro r3 I3 L3 h
      refine jr_if_ne dX11_shift_24 (tgt := 38) (by decide) (fun c => ?_) (fun c => ?_)
      · rw [if_neg c] at h
        refine jr_bipush dX11_shift_38 kbp_m11 ?_
        exact jr_ireturn dX11_shift_40 ⟨Or.inr (Or.inl ⟨rfl, _, rfl⟩), _, _, rfl, h⟩
      · rw [if_pos c] at h
        refine jr_aload_n dX11_shift_27 rfl rfl ?_
        refine jr_geta ff_X11_72 ks_0 rr_0_8 dX11_shift_28 ?_
        refine jr_iload_n dX11_shift_31 rfl rfl ?_
        refine jr_callV (mc2 := 0) (mc := 0) (ms2 := 0) (ms := 0) vm_X11_99 (av := [.int x3]) (st := []) rfl rfl ks_57 (by decide) rfl (Nat.le_of_ble_eq_true rfl) dX11_shift_32 (cI_use (M := (yX9_isEmpty, cX9_isEmpty, 2, some .boolean)) h ?_)
        intro r4 I4 L4 h
        refine jr_if_eq dX11_shift_35 (tgt := 41) (by decide) (fun c => ?_) (fun c => ?_)
        · rw [if_pos c] at h
          refine jr_aload_n dX11_shift_41 rfl rfl ?_
          refine jr_geta ff_X11_72 ks_0 rr_0_8 dX11_shift_42 ?_
          refine jr_iload_n dX11_shift_45 rfl rfl ?_
          refine jr_iload_n dX11_shift_46 rfl rfl ?_
          refine jr_callV (mc2 := 0) (mc := 0) (ms2 := 0) (ms := 0) vm_X11_335 (av := [.int x1, .int x3]) (st := []) rfl rfl ks_57 (by decide) rfl (Nat.le_of_ble_eq_true rfl) dX11_shift_47 (cI_use (M := (yX9_areAlike, cX9_areAlike, 3, some .boolean)) h ?_)
          intro r5 I5 L5 h
          refine jr_if_ne dX11_shift_50 (tgt := 56) (by decide) (fun c => ?_) (fun c => ?_)
          · rw [if_neg c] at h
            refine jr_aload_n dX11_shift_56 rfl rfl ?_
            refine jr_geta ff_X11_72 ks_0 rr_0_8 dX11_shift_57 ?_
            refine jr_iload_n dX11_shift_60 rfl rfl ?_
            refine jr_iload_n dX11_shift_61 rfl rfl ?_
            refine jr_iload dX11_shift_62 rfl ?_
            refine jr_callV (mc2 := 0) (mc := 0) (ms2 := 0) (ms := 0) vm_X11_105 (av := [.int x1, .int x2, .int x5]) (st := []) rfl rfl ks_57 (by decide) rfl (Nat.le_of_ble_eq_true rfl) dX11_shift_64 (cI_use (M := (yX9_hasSpan, cX9_hasSpan, 5, some .boolean)) h ?_)
            intro r6 I6 L6 h
            refine jr_if_eq dX11_shift_67 (tgt := 85) (by decide) (fun c => ?_) (fun c => ?_)
            · rw [if_pos c] at h
              refine jr_bipush dX11_shift_85 kbp_m13 ?_
              exact jr_ireturn dX11_shift_87 ⟨Or.inr (Or.inl ⟨rfl, _, rfl⟩), _, _, rfl, h⟩
            · rw [if_neg c] at h
              refine jr_aload_n dX11_shift_70 rfl rfl ?_
              refine jr_geta ff_X11_72 ks_0 rr_0_8 dX11_shift_71 ?_
              refine jr_iload_n dX11_shift_74 rfl rfl ?_
              refine jr_iload dX11_shift_75 rfl ?_
              refine jr_iload dX11_shift_77 rfl ?_
              refine jr_callV (mc2 := 0) (mc := 0) (ms2 := 0) (ms := 0) vm_X11_105 (av := [.int x3, .int x4, .int x5]) (st := []) rfl rfl ks_57 (by decide) rfl (Nat.le_of_ble_eq_true rfl) dX11_shift_79 (cI_use (M := (yX9_hasSpan, cX9_hasSpan, 5, some .boolean)) h ?_)
              intro r7 I7 L7 h
              refine jr_if_ne dX11_shift_82 (tgt := 88) (by decide) (fun c => ?_) (fun c => ?_)
              · rw [if_neg c] at h
                refine jr_aload_n dX11_shift_88 rfl rfl ?_
                refine jr_geta ff_X11_72 ks_0 rr_0_8 dX11_shift_89 ?_
                refine jr_iload_n dX11_shift_92 rfl rfl ?_
                refine jr_iload_n dX11_shift_93 rfl rfl ?_
                refine jr_iload_n dX11_shift_94 rfl rfl ?_
                refine jr_iload dX11_shift_95 rfl ?_
                refine jr_iload dX11_shift_97 rfl ?_
                refine jr_callV (mc2 := 0) (mc := 0) (ms2 := 0) (ms := 0) vm_X11_338 (av := [.int x1, .int x2, .int x3, .int x4, .int x5]) (st := []) rfl rfl ks_57 (by decide) rfl (Nat.le_of_ble_eq_true rfl) dX11_shift_99 (cV_use (M := (yX9_move, cX9_move, 6, none)) h ?_)
                intro I8 L8 h
                refine jr_iload dX11_shift_102 rfl ?_
                exact jr_ireturn dX11_shift_104 ⟨Or.inr (Or.inl ⟨rfl, _, rfl⟩), _, _, rfl, h⟩
              · rw [if_pos c] at h
                refine jr_bipush dX11_shift_85 kbp_m13 ?_
                exact jr_ireturn dX11_shift_87 ⟨Or.inr (Or.inl ⟨rfl, _, rfl⟩), _, _, rfl, h⟩
          · rw [if_pos c] at h
            refine jr_bipush dX11_shift_53 kbp_m12 ?_
            exact jr_ireturn dX11_shift_55 ⟨Or.inr (Or.inl ⟨rfl, _, rfl⟩), _, _, rfl, h⟩
        · rw [if_neg c] at h
          refine jr_bipush dX11_shift_38 kbp_m11 ?_
          exact jr_ireturn dX11_shift_40 ⟨Or.inr (Or.inl ⟨rfl, _, rfl⟩), _, _, rfl, h⟩
    · rw [if_pos c] at h
      refine jr_iconst dX11_shift_14 kic_m1 ?_
      exact jr_ireturn dX11_shift_15 ⟨Or.inr (Or.inl ⟨rfl, _, rfl⟩), _, _, rfl, h⟩
def wX11_taken (G : jG) (l : Launch) (d : Nat) (x1 : Int32) (x2 : Int32) (I : jS) (L : jL) (Q : Option Value → jS → jL → Prop) : Prop := cI G l mX11_isShelf d [.int x1] I L (fun r1 I1 L1 => (if r1 = 0 then (Q (some (.int (-1 : Int32))) I1 L1) else (cI G l mX11_isKind d [.int x2] I1 L1 (fun r2 I2 L2 => (if r2 = 0 then (Q (some (.int (-1 : Int32))) I2 L2) else (cI G l mX9_isEmpty d [.ref 57, .int x1] I2 L2 (fun r3 I3 L3 => (if r3 = 0 then (cI G l mX9_bodyOn d [.ref 57, .int x1] I3 L3 (fun r4 I4 L4 => (cI G l mX0_kindOf d [.ref 68, .int r4] I4 L4 (fun r5 I5 L5 => (cI G l mX0_isUnder d [.ref 68, .int r5, .int x2] I5 L5 (fun r6 I6 L6 => (if r6 = 0 then (Q (some (.int (-12 : Int32))) I6 L6) else (Q (some (.int r5)) I6 L6)))))))) else (Q (some (.int (-11 : Int32))) I3 L3)))))))))
set_option maxRecDepth 100000 in
set_option maxHeartbeats 4000000 in
theorem wX11_taken_ok {G : jG} {l : Launch} {d : Nat} {Q : Option Value → jS → jL → Prop} {x1 : Int32} {x2 : Int32} {I : jS} {L : jL} (h : wX11_taken G l d x1 x2 I L Q) : cM G l mX11_taken (d + 1) [.ref 0, .int x1, .int x2] I L Q := by
  rw [wX11_taken] at h
  show jCall G l yX11_taken cX11_taken 4 (some .int) (d + 1) 0 0 _ (jKS, I, L, jR0) _
  refine jCall_of (n0 := 1) (ls := [some (.ref 0), some (.int x1), some (.int x2), none]) (by decide +kernel) rfl (Nat.le_of_ble_eq_true rfl) (jQm_of ?_)
  refine jr_iload_n dX11_taken_0 rfl rfl ?_
  refine jr_callS (mc2 := 0) (mc := 0) (ms2 := 0) (ms := 0) vm_X11_95 (av := [.int x1]) (st := []) rfl rfl (Nat.le_of_ble_eq_true rfl) dX11_taken_1 (cI_use (M := (yX11_isShelf, cX11_isShelf, 1, some .boolean)) h ?_)
  intro r1 I1 L1 h
  refine jr_if_eq dX11_taken_4 (tgt := 14) (by decide) (fun c => ?_) (fun c => ?_)
  · rw [if_pos c] at h
    refine jr_iconst dX11_taken_14 kic_m1 ?_
    exact jr_ireturn dX11_taken_15 ⟨Or.inr (Or.inl ⟨rfl, _, rfl⟩), _, _, rfl, h⟩
  · rw [if_neg c] at h
    refine jr_iload_n dX11_taken_7 rfl rfl ?_
    refine jr_callS (mc2 := 0) (mc := 0) (ms2 := 0) (ms := 0) vm_X11_306 (av := [.int x2]) (st := []) rfl rfl (Nat.le_of_ble_eq_true rfl) dX11_taken_8 (cI_use (M := (yX11_isKind, cX11_isKind, 1, some .boolean)) h ?_)
    intro r2 I2 L2 h
    refine jr_if_ne dX11_taken_11 (tgt := 16) (by decide) (fun c => ?_) (fun c => ?_)
    · rw [if_neg c] at h
      refine jr_aload_n dX11_taken_16 rfl rfl ?_
      refine jr_geta ff_X11_72 ks_0 rr_0_8 dX11_taken_17 ?_
      refine jr_iload_n dX11_taken_20 rfl rfl ?_
      refine jr_callV (mc2 := 0) (mc := 0) (ms2 := 0) (ms := 0) vm_X11_99 (av := [.int x1]) (st := []) rfl rfl ks_57 (by decide) rfl (Nat.le_of_ble_eq_true rfl) dX11_taken_21 (cI_use (M := (yX9_isEmpty, cX9_isEmpty, 2, some .boolean)) h ?_)
      intro r3 I3 L3 h
      refine jr_if_eq dX11_taken_24 (tgt := 30) (by decide) (fun c => ?_) (fun c => ?_)
      · rw [if_pos c] at h
        refine jr_aload_n dX11_taken_30 rfl rfl ?_
        refine jr_geta ff_X11_79 ks_0 rr_0_9 dX11_taken_31 ?_
        refine jr_aload_n dX11_taken_34 rfl rfl ?_
        refine jr_geta ff_X11_72 ks_0 rr_0_8 dX11_taken_35 ?_
        refine jr_iload_n dX11_taken_38 rfl rfl ?_
        refine jr_callV (mc2 := 0) (mc := 0) (ms2 := 0) (ms := 0) vm_X11_342 (av := [.int x1]) (st := [.ref 68]) rfl rfl ks_57 (by decide) rfl (Nat.le_of_ble_eq_true rfl) dX11_taken_39 (cI_use (M := (yX9_bodyOn, cX9_bodyOn, 2, some .int)) h ?_)
        intro r4 I4 L4 h
        refine jr_callV (mc2 := 0) (mc := 0) (ms2 := 0) (ms := 0) vm_X11_345 (av := [.int r4]) (st := []) rfl rfl ks_68 (by decide) rfl (Nat.le_of_ble_eq_true rfl) dX11_taken_42 (cI_use (M := (yX0_kindOf, cX0_kindOf, 2, some .int)) h ?_)
        intro r5 I5 L5 h
        refine jr_istore_n dX11_taken_45 rfl (by decide) rfl ?_
        refine jr_aload_n dX11_taken_46 rfl rfl ?_
        refine jr_geta ff_X11_79 ks_0 rr_0_9 dX11_taken_47 ?_
        refine jr_iload_n dX11_taken_50 rfl rfl ?_
        refine jr_iload_n dX11_taken_51 rfl rfl ?_
        refine jr_callV (mc2 := 0) (mc := 0) (ms2 := 0) (ms := 0) vm_X11_348 (av := [.int r5, .int x2]) (st := []) rfl rfl ks_68 (by decide) rfl (Nat.le_of_ble_eq_true rfl) dX11_taken_52 (cI_use (M := (yX0_isUnder, cX0_isUnder, 5, some .boolean)) h ?_)
        intro r6 I6 L6 h
        refine jr_if_eq dX11_taken_55 (tgt := 62) (by decide) (fun c => ?_) (fun c => ?_)
        · rw [if_pos c] at h
          refine jr_bipush dX11_taken_62 kbp_m12 ?_
          exact jr_ireturn dX11_taken_64 ⟨Or.inr (Or.inl ⟨rfl, _, rfl⟩), _, _, rfl, h⟩
        · rw [if_neg c] at h
          refine jr_iload_n dX11_taken_58 rfl rfl ?_
          refine jr_goto dX11_taken_59 (tgt := 64) (by decide) ?_
          exact jr_ireturn dX11_taken_64 ⟨Or.inr (Or.inl ⟨rfl, _, rfl⟩), _, _, rfl, h⟩
      · rw [if_neg c] at h
        refine jr_bipush dX11_taken_27 kbp_m11 ?_
        exact jr_ireturn dX11_taken_29 ⟨Or.inr (Or.inl ⟨rfl, _, rfl⟩), _, _, rfl, h⟩
    · rw [if_pos c] at h
      refine jr_iconst dX11_taken_14 kic_m1 ?_
      exact jr_ireturn dX11_taken_15 ⟨Or.inr (Or.inl ⟨rfl, _, rfl⟩), _, _, rfl, h⟩
def wX11_count (G : jG) (l : Launch) (d : Nat) (x1 : Int32) (I : jS) (L : jL) (Q : Option Value → jS → jL → Prop) : Prop := if x1 = (0 : Int32) then (Q (some (.int (I 1 1))) I L) else (if x1 = (1 : Int32) then (cI G l mX5_weakSquares d [.ref 25] I L (fun r1 I1 L1 => (Q (some (.int r1)) I1 L1))) else (if x1 = (2 : Int32) then (Q (some (.int (I 17 5))) I L) else (if x1 = (3 : Int32) then (Q (some (.int (I 12 4))) I L) else (if x1 = (4 : Int32) then (Q (some (.int (I 68 2))) I L) else (if x1 = (5 : Int32) then (Q (some (.int (I 68 3))) I L) else (Q (some (.int (-1 : Int32))) I L))))))
set_option maxRecDepth 100000 in
set_option maxHeartbeats 4000000 in
theorem wX11_count_ok {G : jG} {l : Launch} {d : Nat} {Q : Option Value → jS → jL → Prop} {x1 : Int32} {I : jS} {L : jL} (h : wX11_count G l d x1 I L Q) : cM G l mX11_count (d + 1) [.ref 0, .int x1] I L Q := by
  rw [wX11_count] at h
  show jCall G l yX11_count cX11_count 2 (some .int) (d + 1) 0 0 _ (jKS, I, L, jR0) _
  refine jCall_of (n0 := 0) (ls := [some (.ref 0), some (.int x1)]) (by decide +kernel) rfl (Nat.le_of_ble_eq_true rfl) (jQm_of ?_)
  refine jr_iload_n dX11_count_0 rfl rfl ?_
  by_cases c : x1 = (0 : Int32)
  · rw [if_pos c] at h
    refine jr_tableIn dX11_count_1 (jtl c (by decide)) (jtg c (by decide)) (off := 39) (jtb c (by decide)) (tgt := 40) (by decide) ?_
    refine jr_aload_n dX11_count_40 rfl rfl ?_
    refine jr_geta ff_X11_10 ks_0 rr_0_0 dX11_count_41 ?_
    refine jv_geti rfl ff_X11_87 ks_1 dX11_count_44 ?_
    exact jr_ireturn dX11_count_47 ⟨Or.inr (Or.inl ⟨rfl, _, rfl⟩), _, _, rfl, h⟩
  · rw [if_neg c] at h
    have c0 := c
    by_cases c : x1 = (1 : Int32)
    · rw [if_pos c] at h
      refine jr_tableIn dX11_count_1 (jtl c (by decide)) (jtg c (by decide)) (off := 47) (jtb c (by decide)) (tgt := 48) (by decide) ?_
      refine jr_aload_n dX11_count_48 rfl rfl ?_
      refine jr_geta ff_X11_42 ks_0 rr_0_4 dX11_count_49 ?_
      refine jr_geta ff_X11_126 ks_24 rr_24_0 dX11_count_52 ?_
      refine jr_callV (mc2 := 0) (mc := 0) (ms2 := 0) (ms := 0) vm_X11_351 (av := []) (st := []) rfl rfl ks_25 (by decide) rfl (Nat.le_of_ble_eq_true rfl) dX11_count_55 (cI_use (M := (yX5_weakSquares, cX5_weakSquares, 3, some .int)) h ?_)
      intro r1 I1 L1 h
      exact jr_ireturn dX11_count_58 ⟨Or.inr (Or.inl ⟨rfl, _, rfl⟩), _, _, rfl, h⟩
    · rw [if_neg c] at h
      have c1 := c
      by_cases c : x1 = (2 : Int32)
      · rw [if_pos c] at h
        refine jr_tableIn dX11_count_1 (jtl c (by decide)) (jtg c (by decide)) (off := 58) (jtb c (by decide)) (tgt := 59) (by decide) ?_
        refine jr_aload_n dX11_count_59 rfl rfl ?_
        refine jr_geta ff_X11_26 ks_0 rr_0_2 dX11_count_60 ?_
        refine jv_geti rfl ff_X11_153 ks_17 dX11_count_63 ?_
        exact jr_ireturn dX11_count_66 ⟨Or.inr (Or.inl ⟨rfl, _, rfl⟩), _, _, rfl, h⟩
      · rw [if_neg c] at h
        have c2 := c
        by_cases c : x1 = (3 : Int32)
        · rw [if_pos c] at h
          refine jr_tableIn dX11_count_1 (jtl c (by decide)) (jtg c (by decide)) (off := 66) (jtb c (by decide)) (tgt := 67) (by decide) ?_
          refine jr_aload_n dX11_count_67 rfl rfl ?_
          refine jr_geta ff_X11_19 ks_0 rr_0_1 dX11_count_68 ?_
          refine jv_geti rfl ff_X11_297 ks_12 dX11_count_71 ?_
          exact jr_ireturn dX11_count_74 ⟨Or.inr (Or.inl ⟨rfl, _, rfl⟩), _, _, rfl, h⟩
        · rw [if_neg c] at h
          have c3 := c
          by_cases c : x1 = (4 : Int32)
          · rw [if_pos c] at h
            refine jr_tableIn dX11_count_1 (jtl c (by decide)) (jtg c (by decide)) (off := 74) (jtb c (by decide)) (tgt := 75) (by decide) ?_
            refine jr_aload_n dX11_count_75 rfl rfl ?_
            refine jr_geta ff_X11_79 ks_0 rr_0_9 dX11_count_76 ?_
            refine jv_geti rfl ff_X11_317 ks_68 dX11_count_79 ?_
            exact jr_ireturn dX11_count_82 ⟨Or.inr (Or.inl ⟨rfl, _, rfl⟩), _, _, rfl, h⟩
          · rw [if_neg c] at h
            have c4 := c
            by_cases c : x1 = (5 : Int32)
            · rw [if_pos c] at h
              refine jr_tableIn dX11_count_1 (jtl c (by decide)) (jtg c (by decide)) (off := 82) (jtb c (by decide)) (tgt := 83) (by decide) ?_
              refine jr_aload_n dX11_count_83 rfl rfl ?_
              refine jr_geta ff_X11_79 ks_0 rr_0_9 dX11_count_84 ?_
              refine jv_geti rfl ff_X11_354 ks_68 dX11_count_87 ?_
              exact jr_ireturn dX11_count_90 ⟨Or.inr (Or.inl ⟨rfl, _, rfl⟩), _, _, rfl, h⟩
            · rw [if_neg c] at h
              have c5 := c
              refine jr_tableOut dX11_count_1 (by
                rcases Int.lt_or_le (x1).toInt (0) with q | q
                · exact Or.inl q
                · rcases Int.lt_or_le (5) (x1).toInt with q2 | q2
                  · exact Or.inr q2
                  · exfalso
                    have ec0 := lv_neT c0 (a := 0) rfl
                    have ec1 := lv_neT c1 (a := 1) rfl
                    have ec2 := lv_neT c2 (a := 2) rfl
                    have ec3 := lv_neT c3 (a := 3) rfl
                    have ec4 := lv_neT c4 (a := 4) rfl
                    have ec5 := lv_neT c5 (a := 5) rfl
                    omega) (tgt := 91) (by decide) ?_
              refine jr_iconst dX11_count_91 kic_m1 ?_
              exact jr_ireturn dX11_count_92 ⟨Or.inr (Or.inl ⟨rfl, _, rfl⟩), _, _, rfl, h⟩
def wX11_isShelf (G : jG) (l : Launch) (d : Nat) (x0 : Int32) (I : jS) (L : jL) (Q : Option Value → jS → jL → Prop) : Prop := if x0 < 0 then (Q (some (.int (0 : Int32))) I L) else (if (6 : Int32) ≤ x0 then (Q (some (.int (0 : Int32))) I L) else (Q (some (.int (1 : Int32))) I L))
set_option maxRecDepth 100000 in
set_option maxHeartbeats 4000000 in
theorem wX11_isShelf_ok {G : jG} {l : Launch} {d : Nat} {Q : Option Value → jS → jL → Prop} {x0 : Int32} {I : jS} {L : jL} (h : wX11_isShelf G l d x0 I L Q) : cM G l mX11_isShelf (d + 1) [.int x0] I L Q := by
  rw [wX11_isShelf] at h
  show jCall G l yX11_isShelf cX11_isShelf 1 (some .boolean) (d + 1) 0 0 _ (jKS, I, L, jR0) _
  refine jCall_of (n0 := 0) (ls := [some (.int x0)]) (by decide +kernel) rfl (Nat.le_of_ble_eq_true rfl) (jQm_of ?_)
  refine jr_iload_n dX11_isShelf_0 rfl rfl ?_
  refine jr_if_lt dX11_isShelf_1 (tgt := 14) (by decide) (fun c => ?_) (fun c => ?_)
  · rw [if_pos c] at h
    refine jr_iconst dX11_isShelf_14 kic_0 ?_
    exact jr_ireturn dX11_isShelf_15 ⟨Or.inr (Or.inr (Or.inr ⟨rfl, Or.inl rfl⟩)), _, _, rfl, h⟩
  · rw [if_neg c] at h
    refine jr_iload_n dX11_isShelf_4 rfl rfl ?_
    refine jr_bipush dX11_isShelf_5 kbp_6 ?_
    refine jr_icmp_ge dX11_isShelf_7 (tgt := 14) (by decide) (fun c => ?_) (fun c => ?_)
    · rw [if_pos c] at h
      refine jr_iconst dX11_isShelf_14 kic_0 ?_
      exact jr_ireturn dX11_isShelf_15 ⟨Or.inr (Or.inr (Or.inr ⟨rfl, Or.inl rfl⟩)), _, _, rfl, h⟩
    · rw [if_neg c] at h
      refine jr_iconst dX11_isShelf_10 kic_1 ?_
      refine jr_goto dX11_isShelf_11 (tgt := 15) (by decide) ?_
      exact jr_ireturn dX11_isShelf_15 ⟨Or.inr (Or.inr (Or.inr ⟨rfl, Or.inr rfl⟩)), _, _, rfl, h⟩
def wX11_isWay (G : jG) (l : Launch) (d : Nat) (x0 : Int32) (I : jS) (L : jL) (Q : Option Value → jS → jL → Prop) : Prop := if x0 < 0 then (Q (some (.int (0 : Int32))) I L) else (if (3 : Int32) ≤ x0 then (Q (some (.int (0 : Int32))) I L) else (Q (some (.int (1 : Int32))) I L))
set_option maxRecDepth 100000 in
set_option maxHeartbeats 4000000 in
theorem wX11_isWay_ok {G : jG} {l : Launch} {d : Nat} {Q : Option Value → jS → jL → Prop} {x0 : Int32} {I : jS} {L : jL} (h : wX11_isWay G l d x0 I L Q) : cM G l mX11_isWay (d + 1) [.int x0] I L Q := by
  rw [wX11_isWay] at h
  show jCall G l yX11_isWay cX11_isWay 1 (some .boolean) (d + 1) 0 0 _ (jKS, I, L, jR0) _
  refine jCall_of (n0 := 0) (ls := [some (.int x0)]) (by decide +kernel) rfl (Nat.le_of_ble_eq_true rfl) (jQm_of ?_)
  refine jr_iload_n dX11_isWay_0 rfl rfl ?_
  refine jr_if_lt dX11_isWay_1 (tgt := 13) (by decide) (fun c => ?_) (fun c => ?_)
  · rw [if_pos c] at h
    refine jr_iconst dX11_isWay_13 kic_0 ?_
    exact jr_ireturn dX11_isWay_14 ⟨Or.inr (Or.inr (Or.inr ⟨rfl, Or.inl rfl⟩)), _, _, rfl, h⟩
  · rw [if_neg c] at h
    refine jr_iload_n dX11_isWay_4 rfl rfl ?_
    refine jr_iconst dX11_isWay_5 kic_3 ?_
    refine jr_icmp_ge dX11_isWay_6 (tgt := 13) (by decide) (fun c => ?_) (fun c => ?_)
    · rw [if_pos c] at h
      refine jr_iconst dX11_isWay_13 kic_0 ?_
      exact jr_ireturn dX11_isWay_14 ⟨Or.inr (Or.inr (Or.inr ⟨rfl, Or.inl rfl⟩)), _, _, rfl, h⟩
    · rw [if_neg c] at h
      refine jr_iconst dX11_isWay_9 kic_1 ?_
      refine jr_goto dX11_isWay_10 (tgt := 14) (by decide) ?_
      exact jr_ireturn dX11_isWay_14 ⟨Or.inr (Or.inr (Or.inr ⟨rfl, Or.inr rfl⟩)), _, _, rfl, h⟩
def wX11_isSquare (G : jG) (l : Launch) (d : Nat) (x0 : Int32) (I : jS) (L : jL) (Q : Option Value → jS → jL → Prop) : Prop := if x0 < 0 then (Q (some (.int (0 : Int32))) I L) else (if (24 : Int32) ≤ x0 then (Q (some (.int (0 : Int32))) I L) else (Q (some (.int (1 : Int32))) I L))
set_option maxRecDepth 100000 in
set_option maxHeartbeats 4000000 in
theorem wX11_isSquare_ok {G : jG} {l : Launch} {d : Nat} {Q : Option Value → jS → jL → Prop} {x0 : Int32} {I : jS} {L : jL} (h : wX11_isSquare G l d x0 I L Q) : cM G l mX11_isSquare (d + 1) [.int x0] I L Q := by
  rw [wX11_isSquare] at h
  show jCall G l yX11_isSquare cX11_isSquare 1 (some .boolean) (d + 1) 0 0 _ (jKS, I, L, jR0) _
  refine jCall_of (n0 := 0) (ls := [some (.int x0)]) (by decide +kernel) rfl (Nat.le_of_ble_eq_true rfl) (jQm_of ?_)
  refine jr_iload_n dX11_isSquare_0 rfl rfl ?_
  refine jr_if_lt dX11_isSquare_1 (tgt := 14) (by decide) (fun c => ?_) (fun c => ?_)
  · rw [if_pos c] at h
    refine jr_iconst dX11_isSquare_14 kic_0 ?_
    exact jr_ireturn dX11_isSquare_15 ⟨Or.inr (Or.inr (Or.inr ⟨rfl, Or.inl rfl⟩)), _, _, rfl, h⟩
  · rw [if_neg c] at h
    refine jr_iload_n dX11_isSquare_4 rfl rfl ?_
    refine jr_bipush dX11_isSquare_5 kbp_24 ?_
    refine jr_icmp_ge dX11_isSquare_7 (tgt := 14) (by decide) (fun c => ?_) (fun c => ?_)
    · rw [if_pos c] at h
      refine jr_iconst dX11_isSquare_14 kic_0 ?_
      exact jr_ireturn dX11_isSquare_15 ⟨Or.inr (Or.inr (Or.inr ⟨rfl, Or.inl rfl⟩)), _, _, rfl, h⟩
    · rw [if_neg c] at h
      refine jr_iconst dX11_isSquare_10 kic_1 ?_
      refine jr_goto dX11_isSquare_11 (tgt := 15) (by decide) ?_
      exact jr_ireturn dX11_isSquare_15 ⟨Or.inr (Or.inr (Or.inr ⟨rfl, Or.inr rfl⟩)), _, _, rfl, h⟩
def wX11_isKind (G : jG) (l : Launch) (d : Nat) (x0 : Int32) (I : jS) (L : jL) (Q : Option Value → jS → jL → Prop) : Prop := if x0 < 0 then (Q (some (.int (0 : Int32))) I L) else (if (8 : Int32) ≤ x0 then (Q (some (.int (0 : Int32))) I L) else (Q (some (.int (1 : Int32))) I L))
set_option maxRecDepth 100000 in
set_option maxHeartbeats 4000000 in
theorem wX11_isKind_ok {G : jG} {l : Launch} {d : Nat} {Q : Option Value → jS → jL → Prop} {x0 : Int32} {I : jS} {L : jL} (h : wX11_isKind G l d x0 I L Q) : cM G l mX11_isKind (d + 1) [.int x0] I L Q := by
  rw [wX11_isKind] at h
  show jCall G l yX11_isKind cX11_isKind 1 (some .boolean) (d + 1) 0 0 _ (jKS, I, L, jR0) _
  refine jCall_of (n0 := 0) (ls := [some (.int x0)]) (by decide +kernel) rfl (Nat.le_of_ble_eq_true rfl) (jQm_of ?_)
  refine jr_iload_n dX11_isKind_0 rfl rfl ?_
  refine jr_if_lt dX11_isKind_1 (tgt := 14) (by decide) (fun c => ?_) (fun c => ?_)
  · rw [if_pos c] at h
    refine jr_iconst dX11_isKind_14 kic_0 ?_
    exact jr_ireturn dX11_isKind_15 ⟨Or.inr (Or.inr (Or.inr ⟨rfl, Or.inl rfl⟩)), _, _, rfl, h⟩
  · rw [if_neg c] at h
    refine jr_iload_n dX11_isKind_4 rfl rfl ?_
    refine jr_bipush dX11_isKind_5 kbp_8 ?_
    refine jr_icmp_ge dX11_isKind_7 (tgt := 14) (by decide) (fun c => ?_) (fun c => ?_)
    · rw [if_pos c] at h
      refine jr_iconst dX11_isKind_14 kic_0 ?_
      exact jr_ireturn dX11_isKind_15 ⟨Or.inr (Or.inr (Or.inr ⟨rfl, Or.inl rfl⟩)), _, _, rfl, h⟩
    · rw [if_neg c] at h
      refine jr_iconst dX11_isKind_10 kic_1 ?_
      refine jr_goto dX11_isKind_11 (tgt := 15) (by decide) ?_
      exact jr_ireturn dX11_isKind_15 ⟨Or.inr (Or.inr (Or.inr ⟨rfl, Or.inr rfl⟩)), _, _, rfl, h⟩
def wX11_isGoer (G : jG) (l : Launch) (d : Nat) (x1 : Int32) (I : jS) (L : jL) (Q : Option Value → jS → jL → Prop) : Prop := if x1 < 0 then (Q (some (.int (0 : Int32))) I L) else (if (I 1 1) ≤ x1 then (Q (some (.int (0 : Int32))) I L) else (Q (some (.int (1 : Int32))) I L))
set_option maxRecDepth 100000 in
set_option maxHeartbeats 4000000 in
theorem wX11_isGoer_ok {G : jG} {l : Launch} {d : Nat} {Q : Option Value → jS → jL → Prop} {x1 : Int32} {I : jS} {L : jL} (h : wX11_isGoer G l d x1 I L Q) : cM G l mX11_isGoer (d + 1) [.ref 0, .int x1] I L Q := by
  rw [wX11_isGoer] at h
  show jCall G l yX11_isGoer cX11_isGoer 2 (some .boolean) (d + 1) 0 0 _ (jKS, I, L, jR0) _
  refine jCall_of (n0 := 0) (ls := [some (.ref 0), some (.int x1)]) (by decide +kernel) rfl (Nat.le_of_ble_eq_true rfl) (jQm_of ?_)
  refine jr_iload_n dX11_isGoer_0 rfl rfl ?_
  refine jr_if_lt dX11_isGoer_1 (tgt := 19) (by decide) (fun c => ?_) (fun c => ?_)
  · rw [if_pos c] at h
    refine jr_iconst dX11_isGoer_19 kic_0 ?_
    exact jr_ireturn dX11_isGoer_20 ⟨Or.inr (Or.inr (Or.inr ⟨rfl, Or.inl rfl⟩)), _, _, rfl, h⟩
  · rw [if_neg c] at h
    refine jr_iload_n dX11_isGoer_4 rfl rfl ?_
    refine jr_aload_n dX11_isGoer_5 rfl rfl ?_
    refine jr_geta ff_X11_10 ks_0 rr_0_0 dX11_isGoer_6 ?_
    refine jv_geti rfl ff_X11_87 ks_1 dX11_isGoer_9 ?_
    refine jr_icmp_ge dX11_isGoer_12 (tgt := 19) (by decide) (fun c => ?_) (fun c => ?_)
    · rw [if_pos c] at h
      refine jr_iconst dX11_isGoer_19 kic_0 ?_
      exact jr_ireturn dX11_isGoer_20 ⟨Or.inr (Or.inr (Or.inr ⟨rfl, Or.inl rfl⟩)), _, _, rfl, h⟩
    · rw [if_neg c] at h
      refine jr_iconst dX11_isGoer_15 kic_1 ?_
      refine jr_goto dX11_isGoer_16 (tgt := 20) (by decide) ?_
      exact jr_ireturn dX11_isGoer_20 ⟨Or.inr (Or.inr (Or.inr ⟨rfl, Or.inr rfl⟩)), _, _, rfl, h⟩
def wX11_comes (G : jG) (l : Launch) (d : Nat) (x1 : Int32) (x2 : Int32) (I : jS) (L : jL) (Q : Option Value → jS → jL → Prop) : Prop := cI G l mX9_byteAt d [.ref 57, .int x1, .int x2] I L (fun r1 I1 L1 => (cI G l mX9_byteAt d [.ref 57, .int x1, .int (x2 + (1 : Int32))] I1 L1 (fun r2 I2 L2 => (cI G l mX9_byteAt d [.ref 57, .int x1, .int (x2 + (2 : Int32))] I2 L2 (fun r3 I3 L3 => (cI G l mX7_allows d [.ref 1, .int (4 : Int32), .int r1] I3 L3 (fun r4 I4 L4 => (if r4 = 0 then (Q (some (.int (0 : Int32))) I4 L4) else (cI G l mX7_allows d [.ref 1, .int (6 : Int32), .int r2] I4 L4 (fun r5 I5 L5 => (if r5 = 0 then (Q (some (.int (0 : Int32))) I5 L5) else (cI G l mX7_allows d [.ref 1, .int (7 : Int32), .int r3] I5 L5 (fun r6 I6 L6 => (if r6 = 0 then (Q (some (.int (0 : Int32))) I6 L6) else (cI G l mX7_add d [.ref 1, .int r1, .int r2, .int r3] I6 L6 (fun r7 I7 L7 => (if r7 < 0 then (Q (some (.int (0 : Int32))) I7 L7) else (Q (some (.int (1 : Int32))) I7 L7))))))))))))))))))
set_option maxRecDepth 100000 in
set_option maxHeartbeats 4000000 in
theorem wX11_comes_ok {G : jG} {l : Launch} {d : Nat} {Q : Option Value → jS → jL → Prop} {x1 : Int32} {x2 : Int32} {I : jS} {L : jL} (h : wX11_comes G l d x1 x2 I L Q) : cM G l mX11_comes (d + 1) [.ref 0, .int x1, .int x2] I L Q := by
  rw [wX11_comes] at h
  show jCall G l yX11_comes cX11_comes 6 (some .boolean) (d + 1) 0 0 _ (jKS, I, L, jR0) _
  refine jCall_of (n0 := 3) (ls := [some (.ref 0), some (.int x1), some (.int x2), none, none, none]) (by decide +kernel) rfl (Nat.le_of_ble_eq_true rfl) (jQm_of ?_)
  refine jr_aload_n dX11_comes_0 rfl rfl ?_
  refine jr_geta ff_X11_72 ks_0 rr_0_8 dX11_comes_1 ?_
  refine jr_iload_n dX11_comes_4 rfl rfl ?_
  refine jr_iload_n dX11_comes_5 rfl rfl ?_
  refine jr_callV (mc2 := 0) (mc := 0) (ms2 := 0) (ms := 0) vm_X11_357 (av := [.int x1, .int x2]) (st := []) rfl rfl ks_57 (by decide) rfl (Nat.le_of_ble_eq_true rfl) dX11_comes_6 (cI_use (M := (yX9_byteAt, cX9_byteAt, 3, some .int)) h ?_)
  intro r1 I1 L1 h
  refine jr_istore_n dX11_comes_9 rfl (by decide) rfl ?_
  refine jr_aload_n dX11_comes_10 rfl rfl ?_
  refine jr_geta ff_X11_72 ks_0 rr_0_8 dX11_comes_11 ?_
  refine jr_iload_n dX11_comes_14 rfl rfl ?_
  refine jr_iload_n dX11_comes_15 rfl rfl ?_
  refine jr_iconst dX11_comes_16 kic_1 ?_
  refine jr_iadd dX11_comes_17 ?_
  refine jr_callV (mc2 := 0) (mc := 0) (ms2 := 0) (ms := 0) vm_X11_357 (av := [.int x1, .int (x2 + (1 : Int32))]) (st := []) rfl rfl ks_57 (by decide) rfl (Nat.le_of_ble_eq_true rfl) dX11_comes_18 (cI_use (M := (yX9_byteAt, cX9_byteAt, 3, some .int)) h ?_)
  intro r2 I2 L2 h
  refine jr_istore dX11_comes_21 (by decide) rfl ?_
  refine jr_aload_n dX11_comes_23 rfl rfl ?_
  refine jr_geta ff_X11_72 ks_0 rr_0_8 dX11_comes_24 ?_
  refine jr_iload_n dX11_comes_27 rfl rfl ?_
  refine jr_iload_n dX11_comes_28 rfl rfl ?_
  refine jr_iconst dX11_comes_29 kic_2 ?_
  refine jr_iadd dX11_comes_30 ?_
  refine jr_callV (mc2 := 0) (mc := 0) (ms2 := 0) (ms := 0) vm_X11_357 (av := [.int x1, .int (x2 + (2 : Int32))]) (st := []) rfl rfl ks_57 (by decide) rfl (Nat.le_of_ble_eq_true rfl) dX11_comes_31 (cI_use (M := (yX9_byteAt, cX9_byteAt, 3, some .int)) h ?_)
  intro r3 I3 L3 h
  refine jr_istore dX11_comes_34 (by decide) rfl ?_
  refine jr_aload_n dX11_comes_36 rfl rfl ?_
  refine jr_geta ff_X11_10 ks_0 rr_0_0 dX11_comes_37 ?_
  refine jr_iconst dX11_comes_40 kic_4 ?_
  refine jr_iload_n dX11_comes_41 rfl rfl ?_
  refine jr_callV (mc2 := 0) (mc := 0) (ms2 := 0) (ms := 0) vm_X11_83 (av := [.int (4 : Int32), .int r1]) (st := []) rfl rfl ks_1 (by decide) rfl (Nat.le_of_ble_eq_true rfl) dX11_comes_42 (cI_use (M := (yX7_allows, cX7_allows, 3, some .boolean)) h ?_)
  intro r4 I4 L4 h
  refine jr_if_eq dX11_comes_45 (tgt := 76) (by decide) (fun c => ?_) (fun c => ?_)
  · rw [if_pos c] at h
    refine jr_iconst dX11_comes_76 kic_0 ?_
    exact jr_ireturn dX11_comes_77 ⟨Or.inr (Or.inr (Or.inr ⟨rfl, Or.inl rfl⟩)), _, _, rfl, h⟩
  · rw [if_neg c] at h
    refine jr_aload_n dX11_comes_48 rfl rfl ?_
    refine jr_geta ff_X11_10 ks_0 rr_0_0 dX11_comes_49 ?_
    refine jr_bipush dX11_comes_52 kbp_6 ?_
    refine jr_iload dX11_comes_54 rfl ?_
    refine jr_callV (mc2 := 0) (mc := 0) (ms2 := 0) (ms := 0) vm_X11_83 (av := [.int (6 : Int32), .int r2]) (st := []) rfl rfl ks_1 (by decide) rfl (Nat.le_of_ble_eq_true rfl) dX11_comes_56 (cI_use (M := (yX7_allows, cX7_allows, 3, some .boolean)) h ?_)
    intro r5 I5 L5 h
    refine jr_if_eq dX11_comes_59 (tgt := 76) (by decide) (fun c => ?_) (fun c => ?_)
    · rw [if_pos c] at h
      refine jr_iconst dX11_comes_76 kic_0 ?_
      exact jr_ireturn dX11_comes_77 ⟨Or.inr (Or.inr (Or.inr ⟨rfl, Or.inl rfl⟩)), _, _, rfl, h⟩
    · rw [if_neg c] at h
      refine jr_aload_n dX11_comes_62 rfl rfl ?_
      refine jr_geta ff_X11_10 ks_0 rr_0_0 dX11_comes_63 ?_
      refine jr_bipush dX11_comes_66 kbp_7 ?_
      refine jr_iload dX11_comes_68 rfl ?_
      refine jr_callV (mc2 := 0) (mc := 0) (ms2 := 0) (ms := 0) vm_X11_83 (av := [.int (7 : Int32), .int r3]) (st := []) rfl rfl ks_1 (by decide) rfl (Nat.le_of_ble_eq_true rfl) dX11_comes_70 (cI_use (M := (yX7_allows, cX7_allows, 3, some .boolean)) h ?_)
      intro r6 I6 L6 h
      refine jr_if_ne dX11_comes_73 (tgt := 78) (by decide) (fun c => ?_) (fun c => ?_)
      · rw [if_neg c] at h
        refine jr_aload_n dX11_comes_78 rfl rfl ?_
        refine jr_geta ff_X11_10 ks_0 rr_0_0 dX11_comes_79 ?_
        refine jr_iload_n dX11_comes_82 rfl rfl ?_
        refine jr_iload dX11_comes_83 rfl ?_
        refine jr_iload dX11_comes_85 rfl ?_
        refine jr_callV (mc2 := 0) (mc := 0) (ms2 := 0) (ms := 0) vm_X11_91 (av := [.int r1, .int r2, .int r3]) (st := []) rfl rfl ks_1 (by decide) rfl (Nat.le_of_ble_eq_true rfl) dX11_comes_87 (cI_use (M := (yX7_add, cX7_add, 5, some .int)) h ?_)
        intro r7 I7 L7 h
        refine jr_if_lt dX11_comes_90 (tgt := 97) (by decide) (fun c => ?_) (fun c => ?_)
        · rw [if_pos c] at h
          refine jr_iconst dX11_comes_97 kic_0 ?_
          exact jr_ireturn dX11_comes_98 ⟨Or.inr (Or.inr (Or.inr ⟨rfl, Or.inl rfl⟩)), _, _, rfl, h⟩
        · rw [if_neg c] at h
          refine jr_iconst dX11_comes_93 kic_1 ?_
          refine jr_goto dX11_comes_94 (tgt := 98) (by decide) ?_
          exact jr_ireturn dX11_comes_98 ⟨Or.inr (Or.inr (Or.inr ⟨rfl, Or.inr rfl⟩)), _, _, rfl, h⟩
      · rw [if_pos c] at h
        refine jr_iconst dX11_comes_76 kic_0 ?_
        exact jr_ireturn dX11_comes_77 ⟨Or.inr (Or.inr (Or.inr ⟨rfl, Or.inl rfl⟩)), _, _, rfl, h⟩
def wX11_runOrder (G : jG) (l : Launch) (d : Nat) (x1 : Int32) (x2 : Int32) (I : jS) (L : jL) (Q : Option Value → jS → jL → Prop) : Prop := cV G l mX10_readOrder d [.ref 31, .ref 57, .int x1, .int (10 : Int32)] I L (fun I1 L1 => (cV G l mX3_follow d [.ref 23, .ref 32, .ref 25] I1 L1 (fun I2 L2 => (cV G l mX10_walk d [.ref 31, .int x2] I2 L2 (fun I3 L3 => (Q none I3 L3))))))
set_option maxRecDepth 100000 in
set_option maxHeartbeats 4000000 in
theorem wX11_runOrder_ok {G : jG} {l : Launch} {d : Nat} {Q : Option Value → jS → jL → Prop} {x1 : Int32} {x2 : Int32} {I : jS} {L : jL} (h : wX11_runOrder G l d x1 x2 I L Q) : cM G l mX11_runOrder (d + 1) [.ref 0, .int x1, .int x2] I L Q := by
  rw [wX11_runOrder] at h
  show jCall G l yX11_runOrder cX11_runOrder 3 (none) (d + 1) 0 0 _ (jKS, I, L, jR0) _
  refine jCall_of (n0 := 0) (ls := [some (.ref 0), some (.int x1), some (.int x2)]) (by decide +kernel) rfl (Nat.le_of_ble_eq_true rfl) (jQm_of ?_)
  refine jr_aload_n dX11_runOrder_0 rfl rfl ?_
  refine jr_geta ff_X11_51 ks_0 rr_0_5 dX11_runOrder_1 ?_
  refine jr_aload_n dX11_runOrder_4 rfl rfl ?_
  refine jr_geta ff_X11_72 ks_0 rr_0_8 dX11_runOrder_5 ?_
  refine jr_iload_n dX11_runOrder_8 rfl rfl ?_
  refine jr_bipush dX11_runOrder_9 kbp_10 ?_
  refine jr_callV (mc2 := 0) (mc := 0) (ms2 := 0) (ms := 0) vm_X11_187 (av := [.ref 57, .int x1, .int (10 : Int32)]) (st := []) rfl rfl ks_31 (by decide) rfl (Nat.le_of_ble_eq_true rfl) dX11_runOrder_11 (cV_use (M := (yX10_readOrder, cX10_readOrder, 7, none)) h ?_)
  intro I1 L1 h
  refine jr_aload_n dX11_runOrder_14 rfl rfl ?_
  refine jr_geta ff_X11_35 ks_0 rr_0_3 dX11_runOrder_15 ?_
  refine jr_aload_n dX11_runOrder_18 rfl rfl ?_
  refine jr_geta ff_X11_51 ks_0 rr_0_5 dX11_runOrder_19 ?_
  refine jr_geta ff_X11_176 ks_31 rr_31_2 dX11_runOrder_22 ?_
  refine jr_aload_n dX11_runOrder_25 rfl rfl ?_
  refine jr_geta ff_X11_42 ks_0 rr_0_4 dX11_runOrder_26 ?_
  refine jr_geta ff_X11_126 ks_24 rr_24_0 dX11_runOrder_29 ?_
  refine jr_callV (mc2 := 0) (mc := 0) (ms2 := 0) (ms := 0) vm_X11_194 (av := [.ref 32, .ref 25]) (st := []) rfl rfl ks_23 (by decide) rfl (Nat.le_of_ble_eq_true rfl) dX11_runOrder_32 (cV_use (M := (yX3_follow, cX3_follow, 3, none)) h ?_)
  intro I2 L2 h
  refine jr_aload_n dX11_runOrder_35 rfl rfl ?_
  refine jr_geta ff_X11_51 ks_0 rr_0_5 dX11_runOrder_36 ?_
  refine jr_iload_n dX11_runOrder_39 rfl rfl ?_
  refine jr_callV (mc2 := 0) (mc := 0) (ms2 := 0) (ms := 0) vm_X11_217 (av := [.int x2]) (st := []) rfl rfl ks_31 (by decide) rfl (Nat.le_of_ble_eq_true rfl) dX11_runOrder_40 (cV_use (M := (yX10_walk, cX10_walk, 4, none)) h ?_)
  intro I3 L3 h
  exact jr_return dX11_runOrder_43 ⟨Or.inl ⟨rfl, rfl⟩, _, _, rfl, h⟩
def wX11_overByRule (G : jG) (l : Launch) (d : Nat) (x1 : Int32) (x2 : Int32) (I : jS) (L : jL) (Q : Option Value → jS → jL → Prop) : Prop := cV G l mX10_byRule d [.ref 31, .int x2] I L (fun I1 L1 => (cV G l mX3_follow d [.ref 23, .ref 32, .ref 25] I1 L1 (fun I2 L2 => (cV G l mX10_walk d [.ref 31, .int x1] I2 L2 (fun I3 L3 => (Q (some (.int (I3 31 6))) I3 L3))))))
set_option maxRecDepth 100000 in
set_option maxHeartbeats 4000000 in
theorem wX11_overByRule_ok {G : jG} {l : Launch} {d : Nat} {Q : Option Value → jS → jL → Prop} {x1 : Int32} {x2 : Int32} {I : jS} {L : jL} (h : wX11_overByRule G l d x1 x2 I L Q) : cM G l mX11_overByRule (d + 1) [.ref 0, .int x1, .int x2] I L Q := by
  rw [wX11_overByRule] at h
  show jCall G l yX11_overByRule cX11_overByRule 3 (some .int) (d + 1) 0 0 _ (jKS, I, L, jR0) _
  refine jCall_of (n0 := 0) (ls := [some (.ref 0), some (.int x1), some (.int x2)]) (by decide +kernel) rfl (Nat.le_of_ble_eq_true rfl) (jQm_of ?_)
  refine jr_aload_n dX11_overByRule_0 rfl rfl ?_
  refine jr_geta ff_X11_51 ks_0 rr_0_5 dX11_overByRule_1 ?_
  refine jr_iload_n dX11_overByRule_4 rfl rfl ?_
  refine jr_callV (mc2 := 0) (mc := 0) (ms2 := 0) (ms := 0) vm_X11_360 (av := [.int x2]) (st := []) rfl rfl ks_31 (by decide) rfl (Nat.le_of_ble_eq_true rfl) dX11_overByRule_5 (cV_use (M := (yX10_byRule, cX10_byRule, 4, none)) h ?_)
  intro I1 L1 h
  refine jr_aload_n dX11_overByRule_8 rfl rfl ?_
  refine jr_geta ff_X11_35 ks_0 rr_0_3 dX11_overByRule_9 ?_
  refine jr_aload_n dX11_overByRule_12 rfl rfl ?_
  refine jr_geta ff_X11_51 ks_0 rr_0_5 dX11_overByRule_13 ?_
  refine jr_geta ff_X11_176 ks_31 rr_31_2 dX11_overByRule_16 ?_
  refine jr_aload_n dX11_overByRule_19 rfl rfl ?_
  refine jr_geta ff_X11_42 ks_0 rr_0_4 dX11_overByRule_20 ?_
  refine jr_geta ff_X11_126 ks_24 rr_24_0 dX11_overByRule_23 ?_
  refine jr_callV (mc2 := 0) (mc := 0) (ms2 := 0) (ms := 0) vm_X11_194 (av := [.ref 32, .ref 25]) (st := []) rfl rfl ks_23 (by decide) rfl (Nat.le_of_ble_eq_true rfl) dX11_overByRule_26 (cV_use (M := (yX3_follow, cX3_follow, 3, none)) h ?_)
  intro I2 L2 h
  refine jr_aload_n dX11_overByRule_29 rfl rfl ?_
  refine jr_geta ff_X11_51 ks_0 rr_0_5 dX11_overByRule_30 ?_
  refine jr_iload_n dX11_overByRule_33 rfl rfl ?_
  refine jr_callV (mc2 := 0) (mc := 0) (ms2 := 0) (ms := 0) vm_X11_217 (av := [.int x1]) (st := []) rfl rfl ks_31 (by decide) rfl (Nat.le_of_ble_eq_true rfl) dX11_overByRule_34 (cV_use (M := (yX10_walk, cX10_walk, 4, none)) h ?_)
  intro I3 L3 h
  refine jr_aload_n dX11_overByRule_37 rfl rfl ?_
  refine jr_geta ff_X11_51 ks_0 rr_0_5 dX11_overByRule_38 ?_
  refine jv_geti rfl ff_X11_170 ks_31 dX11_overByRule_41 ?_
  exact jr_ireturn dX11_overByRule_44 ⟨Or.inr (Or.inl ⟨rfl, _, rfl⟩), _, _, rfl, h⟩
def wX11_carried (G : jG) (l : Launch) (d : Nat) (x1 : Int32) (x2 : Int32) (x3 : Int32) (x4 : Int32) (I : jS) (L : jL) (Q : Option Value → jS → jL → Prop) : Prop := if (1 : Int32) ≤ x4 then (cV G l mX3_follow d [.ref 23, .ref 32, .ref 25] I L (fun I1 L1 => (¬ x4 = 0 ∧ (cI G l mX10_carry d [.ref 31, .int x1, .int x2, .int (((x3 + x4) - (1 : Int32)) / x4), .int x4] I1 L1 (fun r3 I3 L3 => (Q (some (.int r3)) I3 L3)))))) else (Q (some (.int (0 : Int32))) I L)
set_option maxRecDepth 100000 in
set_option maxHeartbeats 4000000 in
theorem wX11_carried_ok {G : jG} {l : Launch} {d : Nat} {Q : Option Value → jS → jL → Prop} {x1 : Int32} {x2 : Int32} {x3 : Int32} {x4 : Int32} {I : jS} {L : jL} (h : wX11_carried G l d x1 x2 x3 x4 I L Q) : cM G l mX11_carried (d + 1) [.ref 0, .int x1, .int x2, .int x3, .int x4] I L Q := by
  rw [wX11_carried] at h
  show jCall G l yX11_carried cX11_carried 5 (some .int) (d + 1) 0 0 _ (jKS, I, L, jR0) _
  refine jCall_of (n0 := 0) (ls := [some (.ref 0), some (.int x1), some (.int x2), some (.int x3), some (.int x4)]) (by decide +kernel) rfl (Nat.le_of_ble_eq_true rfl) (jQm_of ?_)
  refine jr_iload dX11_carried_0 rfl ?_
  refine jr_iconst dX11_carried_2 kic_1 ?_
  refine jr_icmp_ge dX11_carried_3 (tgt := 8) (by decide) (fun c => ?_) (fun c => ?_)
  · rw [if_pos c] at h
    refine jr_aload_n dX11_carried_8 rfl rfl ?_
    refine jr_geta ff_X11_35 ks_0 rr_0_3 dX11_carried_9 ?_
    refine jr_aload_n dX11_carried_12 rfl rfl ?_
    refine jr_geta ff_X11_51 ks_0 rr_0_5 dX11_carried_13 ?_
    refine jr_geta ff_X11_176 ks_31 rr_31_2 dX11_carried_16 ?_
    refine jr_aload_n dX11_carried_19 rfl rfl ?_
    refine jr_geta ff_X11_42 ks_0 rr_0_4 dX11_carried_20 ?_
    refine jr_geta ff_X11_126 ks_24 rr_24_0 dX11_carried_23 ?_
    refine jr_callV (mc2 := 0) (mc := 0) (ms2 := 0) (ms := 0) vm_X11_194 (av := [.ref 32, .ref 25]) (st := []) rfl rfl ks_23 (by decide) rfl (Nat.le_of_ble_eq_true rfl) dX11_carried_26 (cV_use (M := (yX3_follow, cX3_follow, 3, none)) h ?_)
    intro I1 L1 h
    refine jr_aload_n dX11_carried_29 rfl rfl ?_
    refine jr_geta ff_X11_51 ks_0 rr_0_5 dX11_carried_30 ?_
    refine jr_iload_n dX11_carried_33 rfl rfl ?_
    refine jr_iload_n dX11_carried_34 rfl rfl ?_
    refine jr_iload_n dX11_carried_35 rfl rfl ?_
    refine jr_iload dX11_carried_36 rfl ?_
    refine jr_iadd dX11_carried_38 ?_
    refine jr_iconst dX11_carried_39 kic_1 ?_
    refine jr_isub dX11_carried_40 ?_
    refine jr_iload dX11_carried_41 rfl ?_
    obtain ⟨g2, h⟩ := h
    refine jr_idiv dX11_carried_43 g2 ?_
    refine jr_iload dX11_carried_44 rfl ?_
    refine jr_callV (mc2 := 0) (mc := 0) (ms2 := 0) (ms := 0) vm_X11_363 (av := [.int x1, .int x2, .int (((x3 + x4) - (1 : Int32)) / x4), .int x4]) (st := []) rfl rfl ks_31 (by decide) rfl (Nat.le_of_ble_eq_true rfl) dX11_carried_46 (cI_use (M := (yX10_carry, cX10_carry, 8, some .int)) h ?_)
    intro r3 I3 L3 h
    exact jr_ireturn dX11_carried_49 ⟨Or.inr (Or.inl ⟨rfl, _, rfl⟩), _, _, rfl, h⟩
  · rw [if_neg c] at h
    refine jr_iconst dX11_carried_6 kic_0 ?_
    exact jr_ireturn dX11_carried_7 ⟨Or.inr (Or.inl ⟨rfl, _, rfl⟩), _, _, rfl, h⟩
def wX11_mayHaveGone_85 (G : jG) (l : Launch) (d : Nat) (Q : Option Value → jS → jL → Prop) : Nat → Int32 → Int32 → Int32 → Int32 → jS → jL → Prop
  | 0, _, _, _, _, _, _ => False
  | n85 + 1, x1, x2, x4, x5, I, L => if x4 ≤ x5 then (Q (some (.int (1 : Int32))) I L) else (cI G l mX5_weakOn d [.ref 32, .int ((x2 * (8 : Int32)) + x5)] I L (fun r1 I1 L1 => (cI G l mX9_byteAt d [.ref 57, .int x1, .int x5] I1 L1 (fun r2 I2 L2 => (if r1 = r2 then ((wX11_mayHaveGone_85 G l d Q n85) x1 x2 x4 (x5 + (1 : Int32)) I2 L2) else (Q (some (.int (0 : Int32))) I2 L2))))))
set_option maxRecDepth 100000 in
set_option maxHeartbeats 4000000 in
theorem wX11_mayHaveGone_85_ok {G : jG} {l : Launch} {d : Nat} {Q : Option Value → jS → jL → Prop} : ∀ (n : Nat) (x1 : Int32) (x2 : Int32) (x4 : Int32) (x5 : Int32) (I : jS) (L : jL), wX11_mayHaveGone_85 G l d Q n x1 x2 x4 x5 I L → J G l yX11_mayHaveGone cX11_mayHaveGone 6 (d + 1) 0 0 85 [some (.ref 0), some (.int x1), some (.int x2), none, some (.int x4), some (.int x5)] [] (jKS, I, L, jR0) (jQm (some .boolean) Q) := by
  intro n
  induction n with
  | zero => intro x1 x2 x4 x5 I L h; exact h.elim
  | succ n ih =>
    intro x1 x2 x4 x5 I L h
    rw [wX11_mayHaveGone_85] at h
    refine jr_iload dX11_mayHaveGone_85 rfl ?_
    refine jr_iload dX11_mayHaveGone_87 rfl ?_
    refine jr_icmp_ge dX11_mayHaveGone_89 (tgt := 130) (by decide) (fun c => ?_) (fun c => ?_)
    · rw [if_pos c] at h
      refine jr_iconst dX11_mayHaveGone_130 kic_1 ?_
      exact jr_ireturn dX11_mayHaveGone_131 ⟨Or.inr (Or.inr (Or.inr ⟨rfl, Or.inr rfl⟩)), _, _, rfl, h⟩
    · rw [if_neg c] at h
      refine jr_aload_n dX11_mayHaveGone_92 rfl rfl ?_
      refine jr_geta ff_X11_51 ks_0 rr_0_5 dX11_mayHaveGone_93 ?_
      refine jr_geta ff_X11_176 ks_31 rr_31_2 dX11_mayHaveGone_96 ?_
      refine jr_iload_n dX11_mayHaveGone_99 rfl rfl ?_
      refine jr_bipush dX11_mayHaveGone_100 kbp_8 ?_
      refine jr_imul dX11_mayHaveGone_102 ?_
      refine jr_iload dX11_mayHaveGone_103 rfl ?_
      refine jr_iadd dX11_mayHaveGone_105 ?_
      refine jr_callV (mc2 := 0) (mc := 0) (ms2 := 0) (ms := 0) vm_X11_142 (av := [.int ((x2 * (8 : Int32)) + x5)]) (st := []) rfl rfl ks_32 (by decide) rfl (Nat.le_of_ble_eq_true rfl) dX11_mayHaveGone_106 (cI_use (M := (yX5_weakOn, cX5_weakOn, 2, some .int)) h ?_)
      intro r1 I1 L1 h
      refine jr_aload_n dX11_mayHaveGone_109 rfl rfl ?_
      refine jr_geta ff_X11_72 ks_0 rr_0_8 dX11_mayHaveGone_110 ?_
      refine jr_iload_n dX11_mayHaveGone_113 rfl rfl ?_
      refine jr_iload dX11_mayHaveGone_114 rfl ?_
      refine jr_callV (mc2 := 0) (mc := 0) (ms2 := 0) (ms := 0) vm_X11_357 (av := [.int x1, .int x5]) (st := [.int r1]) rfl rfl ks_57 (by decide) rfl (Nat.le_of_ble_eq_true rfl) dX11_mayHaveGone_116 (cI_use (M := (yX9_byteAt, cX9_byteAt, 3, some .int)) h ?_)
      intro r2 I2 L2 h
      refine jr_icmp_eq dX11_mayHaveGone_119 (tgt := 124) (by decide) (fun c => ?_) (fun c => ?_)
      · rw [if_pos c] at h
        refine jr_iinc dX11_mayHaveGone_124 rfl (by rw [kic_1]) (by decide) rfl ?_
        refine jr_goto dX11_mayHaveGone_127 (tgt := 85) (by decide) ?_
        exact J.sub (ih _ _ _ _ _ _ h) (jsub_some (jsub_some (jsub_some (jsub_none (jsub_some (jsub_some jsub_nil))))))
      · rw [if_neg c] at h
        refine jr_iconst dX11_mayHaveGone_122 kic_0 ?_
        exact jr_ireturn dX11_mayHaveGone_123 ⟨Or.inr (Or.inr (Or.inr ⟨rfl, Or.inl rfl⟩)), _, _, rfl, h⟩
def wX11_mayHaveGone (G : jG) (l : Launch) (d : Nat) (x1 : Int32) (x2 : Int32) (x3 : Int32) (I : jS) (L : jL) (Q : Option Value → jS → jL → Prop) : Prop := cV G l mX10_bySet d [.ref 31, .int x3] I L (fun I1 L1 => (cV G l mX3_follow d [.ref 23, .ref 32, .ref 25] I1 L1 (fun I2 L2 => (cV G l mX5_clearWay d [.ref 32, .int x2] I2 L2 (fun I3 L3 => (cV G l mX10_walk d [.ref 31, .int x2] I3 L3 (fun I4 L4 => (if (I4 31 6) = (I4 31 5) then (cI G l mX9_sizeOf d [.ref 57, .int x1] I4 L4 (fun r5 I5 L5 => (∃ e85 : Nat, wX11_mayHaveGone_85 G l d Q e85 x1 x2 (if r5 < (8 : Int32) then r5 else (8 : Int32)) (0 : Int32) I5 L5))) else (Q (some (.int (0 : Int32))) I4 L4)))))))))
set_option maxRecDepth 100000 in
set_option maxHeartbeats 4000000 in
theorem wX11_mayHaveGone_ok {G : jG} {l : Launch} {d : Nat} {Q : Option Value → jS → jL → Prop} {x1 : Int32} {x2 : Int32} {x3 : Int32} {I : jS} {L : jL} (h : wX11_mayHaveGone G l d x1 x2 x3 I L Q) : cM G l mX11_mayHaveGone (d + 1) [.ref 0, .int x1, .int x2, .int x3] I L Q := by
  rw [wX11_mayHaveGone] at h
  show jCall G l yX11_mayHaveGone cX11_mayHaveGone 6 (some .boolean) (d + 1) 0 0 _ (jKS, I, L, jR0) _
  refine jCall_of (n0 := 2) (ls := [some (.ref 0), some (.int x1), some (.int x2), some (.int x3), none, none]) (by decide +kernel) rfl (Nat.le_of_ble_eq_true rfl) (jQm_of ?_)
  refine jr_aload_n dX11_mayHaveGone_0 rfl rfl ?_
  refine jr_geta ff_X11_51 ks_0 rr_0_5 dX11_mayHaveGone_1 ?_
  refine jr_iload_n dX11_mayHaveGone_4 rfl rfl ?_
  refine jr_callV (mc2 := 0) (mc := 0) (ms2 := 0) (ms := 0) vm_X11_366 (av := [.int x3]) (st := []) rfl rfl ks_31 (by decide) rfl (Nat.le_of_ble_eq_true rfl) dX11_mayHaveGone_5 (cV_use (M := (yX10_bySet, cX10_bySet, 3, none)) h ?_)
  intro I1 L1 h
  refine jr_aload_n dX11_mayHaveGone_8 rfl rfl ?_
  refine jr_geta ff_X11_35 ks_0 rr_0_3 dX11_mayHaveGone_9 ?_
  refine jr_aload_n dX11_mayHaveGone_12 rfl rfl ?_
  refine jr_geta ff_X11_51 ks_0 rr_0_5 dX11_mayHaveGone_13 ?_
  refine jr_geta ff_X11_176 ks_31 rr_31_2 dX11_mayHaveGone_16 ?_
  refine jr_aload_n dX11_mayHaveGone_19 rfl rfl ?_
  refine jr_geta ff_X11_42 ks_0 rr_0_4 dX11_mayHaveGone_20 ?_
  refine jr_geta ff_X11_126 ks_24 rr_24_0 dX11_mayHaveGone_23 ?_
  refine jr_callV (mc2 := 0) (mc := 0) (ms2 := 0) (ms := 0) vm_X11_194 (av := [.ref 32, .ref 25]) (st := []) rfl rfl ks_23 (by decide) rfl (Nat.le_of_ble_eq_true rfl) dX11_mayHaveGone_26 (cV_use (M := (yX3_follow, cX3_follow, 3, none)) h ?_)
  intro I2 L2 h
  refine jr_aload_n dX11_mayHaveGone_29 rfl rfl ?_
  refine jr_geta ff_X11_51 ks_0 rr_0_5 dX11_mayHaveGone_30 ?_
  refine jr_geta ff_X11_176 ks_31 rr_31_2 dX11_mayHaveGone_33 ?_
  refine jr_iload_n dX11_mayHaveGone_36 rfl rfl ?_
  refine jr_callV (mc2 := 0) (mc := 0) (ms2 := 0) (ms := 0) vm_X11_211 (av := [.int x2]) (st := []) rfl rfl ks_32 (by decide) rfl (Nat.le_of_ble_eq_true rfl) dX11_mayHaveGone_37 (cV_use (M := (yX5_clearWay, cX5_clearWay, 3, none)) h ?_)
  intro I3 L3 h
  refine jr_aload_n dX11_mayHaveGone_40 rfl rfl ?_
  refine jr_geta ff_X11_51 ks_0 rr_0_5 dX11_mayHaveGone_41 ?_
  refine jr_iload_n dX11_mayHaveGone_44 rfl rfl ?_
  refine jr_callV (mc2 := 0) (mc := 0) (ms2 := 0) (ms := 0) vm_X11_217 (av := [.int x2]) (st := []) rfl rfl ks_31 (by decide) rfl (Nat.le_of_ble_eq_true rfl) dX11_mayHaveGone_45 (cV_use (M := (yX10_walk, cX10_walk, 4, none)) h ?_)
  intro I4 L4 h
  refine jr_aload_n dX11_mayHaveGone_48 rfl rfl ?_
  refine jr_geta ff_X11_51 ks_0 rr_0_5 dX11_mayHaveGone_49 ?_
  refine jv_geti rfl ff_X11_170 ks_31 dX11_mayHaveGone_52 ?_
  refine jr_aload_n dX11_mayHaveGone_55 rfl rfl ?_
  refine jr_geta ff_X11_51 ks_0 rr_0_5 dX11_mayHaveGone_56 ?_
  refine jv_geti rfl ff_X11_191 ks_31 dX11_mayHaveGone_59 ?_
  refine jr_icmp_eq dX11_mayHaveGone_62 (tgt := 67) (by decide) (fun c => ?_) (fun c => ?_)
  · rw [if_pos c] at h
    refine jr_bipush dX11_mayHaveGone_67 kbp_8 ?_
    refine jr_aload_n dX11_mayHaveGone_69 rfl rfl ?_
    refine jr_geta ff_X11_72 ks_0 rr_0_8 dX11_mayHaveGone_70 ?_
    refine jr_iload_n dX11_mayHaveGone_73 rfl rfl ?_
    refine jr_callV (mc2 := 0) (mc := 0) (ms2 := 0) (ms := 0) vm_X11_260 (av := [.int x1]) (st := [.int (8 : Int32)]) rfl rfl ks_57 (by decide) rfl (Nat.le_of_ble_eq_true rfl) dX11_mayHaveGone_74 (cI_use (M := (yX9_sizeOf, cX9_sizeOf, 2, some .int)) h ?_)
    intro r5 I5 L5 h
    refine jr_mmin mw_X11_369 (Nat.le_of_ble_eq_true rfl) dX11_mayHaveGone_77 ?_
    refine jr_istore dX11_mayHaveGone_80 (by decide) rfl ?_
    refine jr_iconst dX11_mayHaveGone_82 kic_0 ?_
    refine jr_istore dX11_mayHaveGone_83 (by decide) rfl ?_
    obtain ⟨e85, h⟩ := h
    exact J.sub (wX11_mayHaveGone_85_ok  e85 _ _ _ _ _ _ h) (jsub_some (jsub_some (jsub_some (jsub_none (jsub_some (jsub_some jsub_nil))))))
  · rw [if_neg c] at h
    refine jr_iconst dX11_mayHaveGone_65 kic_0 ?_
    exact jr_ireturn dX11_mayHaveGone_66 ⟨Or.inr (Or.inr (Or.inr ⟨rfl, Or.inl rfl⟩)), _, _, rfl, h⟩
def wX11_isSo_108 (G : jG) (l : Launch) (d : Nat) (Q : Option Value → jS → jL → Prop) (t0 : Int32) (t1 : Int32) (I : jS) (L : jL) : Prop := if t0 = t1 then (Q (some (.int (1 : Int32))) I L) else (Q (some (.int (0 : Int32))) I L)
set_option maxRecDepth 100000 in
set_option maxHeartbeats 4000000 in
theorem wX11_isSo_108_ok {G : jG} {l : Launch} {d : Nat} {Q : Option Value → jS → jL → Prop} : ∀ (t0 : Int32) (t1 : Int32) (I : jS) (L : jL), wX11_isSo_108 G l d Q t0 t1 I L → J G l yX11_isSo cX11_isSo 7 (d + 1) 0 0 108 [none, none, none, none, none, none, none] [.int t1, .int t0] (jKS, I, L, jR0) (jQm (some .boolean) Q) := by
  intro t0 t1 I L h
  rw [wX11_isSo_108] at h
  refine jr_icmp_ne dX11_isSo_108 (tgt := 115) (by decide) (fun c => ?_) (fun c => ?_)
  · rw [if_neg c] at h
    refine jr_iconst dX11_isSo_115 kic_0 ?_
    exact jr_ireturn dX11_isSo_116 ⟨Or.inr (Or.inr (Or.inr ⟨rfl, Or.inl rfl⟩)), _, _, rfl, h⟩
  · rw [if_pos c] at h
    refine jr_iconst dX11_isSo_111 kic_1 ?_
    refine jr_goto dX11_isSo_112 (tgt := 116) (by decide) ?_
    exact jr_ireturn dX11_isSo_116 ⟨Or.inr (Or.inr (Or.inr ⟨rfl, Or.inr rfl⟩)), _, _, rfl, h⟩
def wX11_isSo_97 (G : jG) (l : Launch) (d : Nat) (Q : Option Value → jS → jL → Prop) (x5 : Int32) (t0 : Int32) (I : jS) (L : jL) : Prop := if x5 = (1 : Int32) then (wX11_isSo_108 G l d Q t0 (1 : Int32) I L) else (wX11_isSo_108 G l d Q t0 (0 : Int32) I L)
set_option maxRecDepth 100000 in
set_option maxHeartbeats 4000000 in
theorem wX11_isSo_97_ok {G : jG} {l : Launch} {d : Nat} {Q : Option Value → jS → jL → Prop} : ∀ (x5 : Int32) (t0 : Int32) (I : jS) (L : jL), wX11_isSo_97 G l d Q x5 t0 I L → J G l yX11_isSo cX11_isSo 7 (d + 1) 0 0 97 [none, none, none, none, none, some (.int x5), none] [.int t0] (jKS, I, L, jR0) (jQm (some .boolean) Q) := by
  intro x5 t0 I L h
  rw [wX11_isSo_97] at h
  refine jr_iload dX11_isSo_97 rfl ?_
  refine jr_iconst dX11_isSo_99 kic_1 ?_
  refine jr_icmp_ne dX11_isSo_100 (tgt := 107) (by decide) (fun c => ?_) (fun c => ?_)
  · rw [if_neg c] at h
    refine jr_iconst dX11_isSo_107 kic_0 ?_
    exact J.sub (wX11_isSo_108_ok  _ _ _ _ h) (jsub_none (jsub_none (jsub_none (jsub_none (jsub_none (jsub_none (jsub_none jsub_nil)))))))
  · rw [if_pos c] at h
    refine jr_iconst dX11_isSo_103 kic_1 ?_
    refine jr_goto dX11_isSo_104 (tgt := 108) (by decide) ?_
    exact J.sub (wX11_isSo_108_ok  _ _ _ _ h) (jsub_none (jsub_none (jsub_none (jsub_none (jsub_none (jsub_none (jsub_none jsub_nil)))))))
def wX11_isSo (G : jG) (l : Launch) (d : Nat) (x1 : Int32) (x2 : Int32) (I : jS) (L : jL) (Q : Option Value → jS → jL → Prop) : Prop := cI G l mX9_byteAt d [.ref 57, .int x1, .int x2] I L (fun r1 I1 L1 => (cI G l mX9_byteAt d [.ref 57, .int x1, .int (x2 + (1 : Int32))] I1 L1 (fun r2 I2 L2 => (cI G l mX9_byteAt d [.ref 57, .int x1, .int (x2 + (2 : Int32))] I2 L2 (fun r3 I3 L3 => (cI G l mX11_isGoer d [.ref 0, .int r1] I3 L3 (fun r4 I4 L4 => (if r4 = 0 then (Q (some (.int (0 : Int32))) I4 L4) else (cI G l mX11_isWay d [.int r2] I4 L4 (fun r5 I5 L5 => (if r5 = 0 then (Q (some (.int (0 : Int32))) I5 L5) else (if r3 < 0 then (Q (some (.int (0 : Int32))) I5 L5) else (if r3 ≤ (1 : Int32) then (cI G l mX3_cross d [.ref 23, .ref 32, .int r2, .int r1, .int (0 : Int32), .int (0 : Int32)] I5 L5 (fun r6 I6 L6 => (if r6 = (-1 : Int32) then (wX11_isSo_97 G l d Q r3 (1 : Int32) I6 L6) else (wX11_isSo_97 G l d Q r3 (0 : Int32) I6 L6)))) else (Q (some (.int (0 : Int32))) I5 L5))))))))))))))
set_option maxRecDepth 100000 in
set_option maxHeartbeats 4000000 in
theorem wX11_isSo_ok {G : jG} {l : Launch} {d : Nat} {Q : Option Value → jS → jL → Prop} {x1 : Int32} {x2 : Int32} {I : jS} {L : jL} (h : wX11_isSo G l d x1 x2 I L Q) : cM G l mX11_isSo (d + 1) [.ref 0, .int x1, .int x2] I L Q := by
  rw [wX11_isSo] at h
  show jCall G l yX11_isSo cX11_isSo 7 (some .boolean) (d + 1) 0 0 _ (jKS, I, L, jR0) _
  refine jCall_of (n0 := 4) (ls := [some (.ref 0), some (.int x1), some (.int x2), none, none, none, none]) (by decide +kernel) rfl (Nat.le_of_ble_eq_true rfl) (jQm_of ?_)
  refine jr_aload_n dX11_isSo_0 rfl rfl ?_
  refine jr_geta ff_X11_72 ks_0 rr_0_8 dX11_isSo_1 ?_
  refine jr_iload_n dX11_isSo_4 rfl rfl ?_
  refine jr_iload_n dX11_isSo_5 rfl rfl ?_
  refine jr_callV (mc2 := 0) (mc := 0) (ms2 := 0) (ms := 0) vm_X11_357 (av := [.int x1, .int x2]) (st := []) rfl rfl ks_57 (by decide) rfl (Nat.le_of_ble_eq_true rfl) dX11_isSo_6 (cI_use (M := (yX9_byteAt, cX9_byteAt, 3, some .int)) h ?_)
  intro r1 I1 L1 h
  refine jr_istore_n dX11_isSo_9 rfl (by decide) rfl ?_
  refine jr_aload_n dX11_isSo_10 rfl rfl ?_
  refine jr_geta ff_X11_72 ks_0 rr_0_8 dX11_isSo_11 ?_
  refine jr_iload_n dX11_isSo_14 rfl rfl ?_
  refine jr_iload_n dX11_isSo_15 rfl rfl ?_
  refine jr_iconst dX11_isSo_16 kic_1 ?_
  refine jr_iadd dX11_isSo_17 ?_
  refine jr_callV (mc2 := 0) (mc := 0) (ms2 := 0) (ms := 0) vm_X11_357 (av := [.int x1, .int (x2 + (1 : Int32))]) (st := []) rfl rfl ks_57 (by decide) rfl (Nat.le_of_ble_eq_true rfl) dX11_isSo_18 (cI_use (M := (yX9_byteAt, cX9_byteAt, 3, some .int)) h ?_)
  intro r2 I2 L2 h
  refine jr_istore dX11_isSo_21 (by decide) rfl ?_
  refine jr_aload_n dX11_isSo_23 rfl rfl ?_
  refine jr_geta ff_X11_72 ks_0 rr_0_8 dX11_isSo_24 ?_
  refine jr_iload_n dX11_isSo_27 rfl rfl ?_
  refine jr_iload_n dX11_isSo_28 rfl rfl ?_
  refine jr_iconst dX11_isSo_29 kic_2 ?_
  refine jr_iadd dX11_isSo_30 ?_
  refine jr_callV (mc2 := 0) (mc := 0) (ms2 := 0) (ms := 0) vm_X11_357 (av := [.int x1, .int (x2 + (2 : Int32))]) (st := []) rfl rfl ks_57 (by decide) rfl (Nat.le_of_ble_eq_true rfl) dX11_isSo_31 (cI_use (M := (yX9_byteAt, cX9_byteAt, 3, some .int)) h ?_)
  intro r3 I3 L3 h
  refine jr_istore dX11_isSo_34 (by decide) rfl ?_
  refine jr_aload_n dX11_isSo_36 rfl rfl ?_
  refine jr_iload_n dX11_isSo_37 rfl rfl ?_
  refine jr_callV (mc2 := 0) (mc := 0) (ms2 := 0) (ms := 0) vm_X11_220 (av := [.int r1]) (st := []) rfl rfl ks_0 (by decide) rfl (Nat.le_of_ble_eq_true rfl) dX11_isSo_38 (cI_use (M := (yX11_isGoer, cX11_isGoer, 2, some .boolean)) h ?_)
  intro r4 I4 L4 h
  refine jr_if_eq dX11_isSo_41 (tgt := 63) (by decide) (fun c => ?_) (fun c => ?_)
  · rw [if_pos c] at h
    refine jr_iconst dX11_isSo_63 kic_0 ?_
    exact jr_ireturn dX11_isSo_64 ⟨Or.inr (Or.inr (Or.inr ⟨rfl, Or.inl rfl⟩)), _, _, rfl, h⟩
  · rw [if_neg c] at h
    refine jr_iload dX11_isSo_44 rfl ?_
    refine jr_callS (mc2 := 0) (mc := 0) (ms2 := 0) (ms := 0) vm_X11_160 (av := [.int r2]) (st := []) rfl rfl (Nat.le_of_ble_eq_true rfl) dX11_isSo_46 (cI_use (M := (yX11_isWay, cX11_isWay, 1, some .boolean)) h ?_)
    intro r5 I5 L5 h
    refine jr_if_eq dX11_isSo_49 (tgt := 63) (by decide) (fun c => ?_) (fun c => ?_)
    · rw [if_pos c] at h
      refine jr_iconst dX11_isSo_63 kic_0 ?_
      exact jr_ireturn dX11_isSo_64 ⟨Or.inr (Or.inr (Or.inr ⟨rfl, Or.inl rfl⟩)), _, _, rfl, h⟩
    · rw [if_neg c] at h
      refine jr_iload dX11_isSo_52 rfl ?_
      refine jr_if_lt dX11_isSo_54 (tgt := 63) (by decide) (fun c => ?_) (fun c => ?_)
      · rw [if_pos c] at h
        refine jr_iconst dX11_isSo_63 kic_0 ?_
        exact jr_ireturn dX11_isSo_64 ⟨Or.inr (Or.inr (Or.inr ⟨rfl, Or.inl rfl⟩)), _, _, rfl, h⟩
      · rw [if_neg c] at h
        refine jr_iload dX11_isSo_57 rfl ?_
        refine jr_iconst dX11_isSo_59 kic_1 ?_
        refine jr_icmp_le dX11_isSo_60 (tgt := 65) (by decide) (fun c => ?_) (fun c => ?_)
        · rw [if_pos c] at h
          refine jr_aload_n dX11_isSo_65 rfl rfl ?_
          refine jr_geta ff_X11_35 ks_0 rr_0_3 dX11_isSo_66 ?_
          refine jr_aload_n dX11_isSo_69 rfl rfl ?_
          refine jr_geta ff_X11_51 ks_0 rr_0_5 dX11_isSo_70 ?_
          refine jr_geta ff_X11_176 ks_31 rr_31_2 dX11_isSo_73 ?_
          refine jr_iload dX11_isSo_76 rfl ?_
          refine jr_iload_n dX11_isSo_78 rfl rfl ?_
          refine jr_iconst dX11_isSo_79 kic_0 ?_
          refine jr_iconst dX11_isSo_80 kic_0 ?_
          refine jr_callV (mc2 := 0) (mc := 0) (ms2 := 0) (ms := 0) vm_X11_272 (av := [.ref 32, .int r2, .int r1, .int (0 : Int32), .int (0 : Int32)]) (st := []) rfl rfl ks_23 (by decide) rfl (Nat.le_of_ble_eq_true rfl) dX11_isSo_81 (cI_use (M := (yX3_cross, cX3_cross, 9, some .int)) h ?_)
          intro r6 I6 L6 h
          refine jr_istore dX11_isSo_84 (by decide) rfl ?_
          refine jr_iload dX11_isSo_86 rfl ?_
          refine jr_iconst dX11_isSo_88 kic_m1 ?_
          refine jr_icmp_ne dX11_isSo_89 (tgt := 96) (by decide) (fun c => ?_) (fun c => ?_)
          · rw [if_neg c] at h
            refine jr_iconst dX11_isSo_96 kic_0 ?_
            exact J.sub (wX11_isSo_97_ok  _ _ _ _ h) (jsub_none (jsub_none (jsub_none (jsub_none (jsub_none (jsub_some (jsub_none jsub_nil)))))))
          · rw [if_pos c] at h
            refine jr_iconst dX11_isSo_92 kic_1 ?_
            refine jr_goto dX11_isSo_93 (tgt := 97) (by decide) ?_
            exact J.sub (wX11_isSo_97_ok  _ _ _ _ h) (jsub_none (jsub_none (jsub_none (jsub_none (jsub_none (jsub_some (jsub_none jsub_nil)))))))
        · rw [if_neg c] at h
          refine jr_iconst dX11_isSo_63 kic_0 ?_
          exact jr_ireturn dX11_isSo_64 ⟨Or.inr (Or.inr (Or.inr ⟨rfl, Or.inl rfl⟩)), _, _, rfl, h⟩

def wX4_lead (G : jG) (l : Launch) (d : Nat) (x1 : Int32) (x2 : Int32) (I : jS) (L : jL) (Q : Option Value → jS → jL → Prop) : Prop := if x1 = (-1 : Int32) then (Q none (u2 (u2 (u2 I 28 0 ((I 28 0) + (1 : Int32))) 28 1 ((I 28 1) + (1 : Int32))) 28 3 (if (I 28 3) < x2 then x2 else (I 28 3))) L) else (Q none (u2 (u2 (u2 I 28 0 ((I 28 0) + (1 : Int32))) 28 2 ((I 28 2) + (1 : Int32))) 28 4 x1) L)
set_option maxRecDepth 100000 in
set_option maxHeartbeats 4000000 in
theorem wX4_lead_ok {G : jG} {l : Launch} {d : Nat} {Q : Option Value → jS → jL → Prop} {x1 : Int32} {x2 : Int32} {I : jS} {L : jL} (h : wX4_lead G l d x1 x2 I L Q) : cM G l mX4_lead (d + 1) [.ref 24, .int x1, .int x2] I L Q := by
  rw [wX4_lead] at h
  show jCall G l yX4_lead cX4_lead 3 (none) (d + 1) 0 0 _ (jKS, I, L, jR0) _
  refine jCall_of (n0 := 0) (ls := [some (.ref 24), some (.int x1), some (.int x2)]) (by decide +kernel) rfl (Nat.le_of_ble_eq_true rfl) (jQm_of ?_)
  refine jr_aload_n dX4_lead_0 rfl rfl ?_
  refine jr_geta ff_X4_18 ks_24 rr_24_1 dX4_lead_1 ?_
  refine jr_iconst dX4_lead_4 kic_0 ?_
  refine jr_dup2_11 dX4_lead_5 rfl rfl ?_
  refine jv_iaload rfl nn_0 ks_28 dX4_lead_6 vin_0_5 ?_
  refine jr_iconst dX4_lead_7 kic_1 ?_
  refine jr_iadd dX4_lead_8 ?_
  refine jr_iastore nn_0 ks_28 dX4_lead_9 vin_0_5 ?_
  refine jr_iload_n dX4_lead_10 rfl rfl ?_
  refine jr_iconst dX4_lead_11 kic_m1 ?_
  refine jr_icmp_ne dX4_lead_12 (tgt := 44) (by decide) (fun c => ?_) (fun c => ?_)
  · rw [if_neg c] at h
    refine jr_aload_n dX4_lead_44 rfl rfl ?_
    refine jr_geta ff_X4_18 ks_24 rr_24_1 dX4_lead_45 ?_
    refine jr_iconst dX4_lead_48 kic_2 ?_
    refine jr_dup2_11 dX4_lead_49 rfl rfl ?_
    refine jv_iaload (u2i (by decide)) nn_2 ks_28 dX4_lead_50 vin_2_5 ?_
    refine jr_iconst dX4_lead_51 kic_1 ?_
    refine jr_iadd dX4_lead_52 ?_
    refine jr_iastore nn_2 ks_28 dX4_lead_53 vin_2_5 ?_
    refine jr_aload_n dX4_lead_54 rfl rfl ?_
    refine jr_geta ff_X4_18 ks_24 rr_24_1 dX4_lead_55 ?_
    refine jr_iconst dX4_lead_58 kic_4 ?_
    refine jr_iload_n dX4_lead_59 rfl rfl ?_
    refine jr_iastore nn_4 ks_28 dX4_lead_60 vin_4_5 ?_
    exact jr_return dX4_lead_61 ⟨Or.inl ⟨rfl, rfl⟩, _, _, rfl, h⟩
  · rw [if_pos c] at h
    refine jr_aload_n dX4_lead_15 rfl rfl ?_
    refine jr_geta ff_X4_18 ks_24 rr_24_1 dX4_lead_16 ?_
    refine jr_iconst dX4_lead_19 kic_1 ?_
    refine jr_dup2_11 dX4_lead_20 rfl rfl ?_
    refine jv_iaload (u2i (by decide)) nn_1 ks_28 dX4_lead_21 vin_1_5 ?_
    refine jr_iconst dX4_lead_22 kic_1 ?_
    refine jr_iadd dX4_lead_23 ?_
    refine jr_iastore nn_1 ks_28 dX4_lead_24 vin_1_5 ?_
    refine jr_aload_n dX4_lead_25 rfl rfl ?_
    refine jr_geta ff_X4_18 ks_24 rr_24_1 dX4_lead_26 ?_
    refine jr_iconst dX4_lead_29 kic_3 ?_
    refine jr_aload_n dX4_lead_30 rfl rfl ?_
    refine jr_geta ff_X4_18 ks_24 rr_24_1 dX4_lead_31 ?_
    refine jr_iconst dX4_lead_34 kic_3 ?_
    refine jv_iaload ((u2i (by decide)).trans (u2i (by decide))) nn_3 ks_28 dX4_lead_35 vin_3_5 ?_
    refine jr_iload_n dX4_lead_36 rfl rfl ?_
    refine jr_mmax mw_X4_36 (Nat.le_of_ble_eq_true rfl) dX4_lead_37 ?_
    refine jr_iastore nn_3 ks_28 dX4_lead_40 vin_3_5 ?_
    refine jr_goto dX4_lead_41 (tgt := 61) (by decide) ?_
    exact jr_return dX4_lead_61 ⟨Or.inl ⟨rfl, rfl⟩, _, _, rfl, h⟩
def wX4_told (G : jG) (l : Launch) (d : Nat) (x1 : Int32) (I : jS) (L : jL) (Q : Option Value → jS → jL → Prop) : Prop := if x1 < 0 then (Q (some (.int (-1 : Int32))) I L) else (if (5 : Int32) ≤ x1 then (Q (some (.int (-1 : Int32))) I L) else (vp_in x1 5 ∧ (Q (some (.int (I 28 x1.toNatClampNeg))) I L)))
set_option maxRecDepth 100000 in
set_option maxHeartbeats 4000000 in
theorem wX4_told_ok {G : jG} {l : Launch} {d : Nat} {Q : Option Value → jS → jL → Prop} {x1 : Int32} {I : jS} {L : jL} (h : wX4_told G l d x1 I L Q) : cM G l mX4_told (d + 1) [.ref 24, .int x1] I L Q := by
  rw [wX4_told] at h
  show jCall G l yX4_told cX4_told 2 (some .int) (d + 1) 0 0 _ (jKS, I, L, jR0) _
  refine jCall_of (n0 := 0) (ls := [some (.ref 24), some (.int x1)]) (by decide +kernel) rfl (Nat.le_of_ble_eq_true rfl) (jQm_of ?_)
  refine jr_iload_n dX4_told_0 rfl rfl ?_
  refine jr_if_lt dX4_told_1 (tgt := 18) (by decide) (fun c => ?_) (fun c => ?_)
  · rw [if_pos c] at h
    refine jr_iconst dX4_told_18 kic_m1 ?_
    exact jr_ireturn dX4_told_19 ⟨Or.inr (Or.inl ⟨rfl, _, rfl⟩), _, _, rfl, h⟩
  · rw [if_neg c] at h
    refine jr_iload_n dX4_told_4 rfl rfl ?_
    refine jr_iconst dX4_told_5 kic_5 ?_
    refine jr_icmp_ge dX4_told_6 (tgt := 18) (by decide) (fun c => ?_) (fun c => ?_)
    · rw [if_pos c] at h
      refine jr_iconst dX4_told_18 kic_m1 ?_
      exact jr_ireturn dX4_told_19 ⟨Or.inr (Or.inl ⟨rfl, _, rfl⟩), _, _, rfl, h⟩
    · rw [if_neg c] at h
      refine jr_aload_n dX4_told_9 rfl rfl ?_
      refine jr_geta ff_X4_18 ks_24 rr_24_1 dX4_told_10 ?_
      refine jr_iload_n dX4_told_13 rfl rfl ?_
      obtain ⟨g1, h⟩ := h
      refine jv_iaload rfl rfl ks_28 dX4_told_14 g1 ?_
      refine jr_goto dX4_told_15 (tgt := 19) (by decide) ?_
      exact jr_ireturn dX4_told_19 ⟨Or.inr (Or.inl ⟨rfl, _, rfl⟩), _, _, rfl, h⟩
def wX4_keepImage (G : jG) (l : Launch) (d : Nat) (I : jS) (L : jL) (Q : Option Value → jS → jL → Prop) : Prop := jcok (0 : Int32) (0 : Int32) (24 : Int32) 24 24 ∧ (jcok (0 : Int32) (0 : Int32) (5 : Int32) 5 5 ∧ (Q none (u2 (u2 (jcpy (jcpy I 27 29 (0 : Int32) (0 : Int32) (24 : Int32)) 28 30 (0 : Int32) (0 : Int32) (5 : Int32)) 24 4 ((jcpy (jcpy I 27 29 (0 : Int32) (0 : Int32) (24 : Int32)) 28 30 (0 : Int32) (0 : Int32) (5 : Int32)) 25 2)) 24 5 (1 : Int32)) L))
set_option maxRecDepth 100000 in
set_option maxHeartbeats 4000000 in
theorem wX4_keepImage_ok {G : jG} {l : Launch} {d : Nat} {Q : Option Value → jS → jL → Prop} {I : jS} {L : jL} (h : wX4_keepImage G l d I L Q) : cM G l mX4_keepImage (d + 1) [.ref 24] I L Q := by
  rw [wX4_keepImage] at h
  show jCall G l yX4_keepImage cX4_keepImage 1 (none) (d + 1) 0 0 _ (jKS, I, L, jR0) _
  refine jCall_of (n0 := 0) (ls := [some (.ref 24)]) (by decide +kernel) rfl (Nat.le_of_ble_eq_true rfl) (jQm_of ?_)
  refine jr_aload_n dX4_keepImage_0 rfl rfl ?_
  refine jr_geta ff_X4_12 ks_24 rr_24_0 dX4_keepImage_1 ?_
  refine jr_geta ff_X4_42 ks_25 rr_25_1 dX4_keepImage_4 ?_
  refine jr_iconst dX4_keepImage_7 kic_0 ?_
  refine jr_aload_n dX4_keepImage_8 rfl rfl ?_
  refine jr_geta ff_X4_22 ks_24 rr_24_2 dX4_keepImage_9 ?_
  refine jr_iconst dX4_keepImage_12 kic_0 ?_
  refine jr_bipush dX4_keepImage_13 kbp_24 ?_
  obtain ⟨g1, h⟩ := h
  refine jr_copyi cw_X4_45 ks_27 ks_29 g1 (by decide) (Nat.le_of_ble_eq_true rfl) dX4_keepImage_15 ?_
  refine jr_aload_n dX4_keepImage_18 rfl rfl ?_
  refine jr_geta ff_X4_18 ks_24 rr_24_1 dX4_keepImage_19 ?_
  refine jr_iconst dX4_keepImage_22 kic_0 ?_
  refine jr_aload_n dX4_keepImage_23 rfl rfl ?_
  refine jr_geta ff_X4_25 ks_24 rr_24_3 dX4_keepImage_24 ?_
  refine jr_iconst dX4_keepImage_27 kic_0 ?_
  refine jr_iconst dX4_keepImage_28 kic_5 ?_
  obtain ⟨g2, h⟩ := h
  refine jr_copyi cw_X4_45 ks_28 ks_30 g2 (by decide) (Nat.le_of_ble_eq_true rfl) dX4_keepImage_29 ?_
  refine jr_aload_n dX4_keepImage_32 rfl rfl ?_
  refine jr_aload_n dX4_keepImage_33 rfl rfl ?_
  refine jr_geta ff_X4_12 ks_24 rr_24_0 dX4_keepImage_34 ?_
  refine jv_geti rfl ff_X4_51 ks_25 dX4_keepImage_37 ?_
  refine jr_puti ff_X4_28 ks_24 dX4_keepImage_40 ?_
  refine jr_aload_n dX4_keepImage_43 rfl rfl ?_
  refine jr_iconst dX4_keepImage_44 kic_1 ?_
  refine jr_putz ff_X4_32 ks_24 (Or.inr rfl) dX4_keepImage_45 ?_
  exact jr_return dX4_keepImage_48 ⟨Or.inl ⟨rfl, rfl⟩, _, _, rfl, h⟩
def wX4_layImage (G : jG) (l : Launch) (d : Nat) (I : jS) (L : jL) (Q : Option Value → jS → jL → Prop) : Prop := if (I 24 5) = 0 then (Q (some (.int (0 : Int32))) I L) else (jcok (0 : Int32) (0 : Int32) (24 : Int32) 24 24 ∧ (jcok (0 : Int32) (0 : Int32) (5 : Int32) 5 5 ∧ (Q (some (.int (1 : Int32))) (u2 (jcpy (jcpy I 29 27 (0 : Int32) (0 : Int32) (24 : Int32)) 30 28 (0 : Int32) (0 : Int32) (5 : Int32)) 25 2 ((jcpy (jcpy I 29 27 (0 : Int32) (0 : Int32) (24 : Int32)) 30 28 (0 : Int32) (0 : Int32) (5 : Int32)) 24 4)) L)))
set_option maxRecDepth 100000 in
set_option maxHeartbeats 4000000 in
theorem wX4_layImage_ok {G : jG} {l : Launch} {d : Nat} {Q : Option Value → jS → jL → Prop} {I : jS} {L : jL} (h : wX4_layImage G l d I L Q) : cM G l mX4_layImage (d + 1) [.ref 24] I L Q := by
  rw [wX4_layImage] at h
  show jCall G l yX4_layImage cX4_layImage 1 (some .boolean) (d + 1) 0 0 _ (jKS, I, L, jR0) _
  refine jCall_of (n0 := 0) (ls := [some (.ref 24)]) (by decide +kernel) rfl (Nat.le_of_ble_eq_true rfl) (jQm_of ?_)
  refine jr_aload_n dX4_layImage_0 rfl rfl ?_
  refine jv_geti rfl ff_X4_32 ks_24 dX4_layImage_1 ?_
  refine jr_if_ne dX4_layImage_4 (tgt := 9) (by decide) (fun c => ?_) (fun c => ?_)
  · rw [if_neg c] at h
    refine jr_aload_n dX4_layImage_9 rfl rfl ?_
    refine jr_geta ff_X4_22 ks_24 rr_24_2 dX4_layImage_10 ?_
    refine jr_iconst dX4_layImage_13 kic_0 ?_
    refine jr_aload_n dX4_layImage_14 rfl rfl ?_
    refine jr_geta ff_X4_12 ks_24 rr_24_0 dX4_layImage_15 ?_
    refine jr_geta ff_X4_42 ks_25 rr_25_1 dX4_layImage_18 ?_
    refine jr_iconst dX4_layImage_21 kic_0 ?_
    refine jr_bipush dX4_layImage_22 kbp_24 ?_
    obtain ⟨g1, h⟩ := h
    refine jr_copyi cw_X4_45 ks_29 ks_27 g1 (by decide) (Nat.le_of_ble_eq_true rfl) dX4_layImage_24 ?_
    refine jr_aload_n dX4_layImage_27 rfl rfl ?_
    refine jr_geta ff_X4_25 ks_24 rr_24_3 dX4_layImage_28 ?_
    refine jr_iconst dX4_layImage_31 kic_0 ?_
    refine jr_aload_n dX4_layImage_32 rfl rfl ?_
    refine jr_geta ff_X4_18 ks_24 rr_24_1 dX4_layImage_33 ?_
    refine jr_iconst dX4_layImage_36 kic_0 ?_
    refine jr_iconst dX4_layImage_37 kic_5 ?_
    obtain ⟨g2, h⟩ := h
    refine jr_copyi cw_X4_45 ks_30 ks_28 g2 (by decide) (Nat.le_of_ble_eq_true rfl) dX4_layImage_38 ?_
    refine jr_aload_n dX4_layImage_41 rfl rfl ?_
    refine jr_geta ff_X4_12 ks_24 rr_24_0 dX4_layImage_42 ?_
    refine jr_aload_n dX4_layImage_45 rfl rfl ?_
    refine jv_geti rfl ff_X4_28 ks_24 dX4_layImage_46 ?_
    refine jr_puti ff_X4_51 ks_25 dX4_layImage_49 ?_
    refine jr_iconst dX4_layImage_52 kic_1 ?_
    exact jr_ireturn dX4_layImage_53 ⟨Or.inr (Or.inr (Or.inr ⟨rfl, Or.inr rfl⟩)), _, _, rfl, h⟩
  · rw [if_pos c] at h
    refine jr_iconst dX4_layImage_7 kic_0 ?_
    exact jr_ireturn dX4_layImage_8 ⟨Or.inr (Or.inr (Or.inr ⟨rfl, Or.inl rfl⟩)), _, _, rfl, h⟩

def wX1_look_67 (G : jG) (l : Launch) (d : Nat) (ic1 : Nat) (k3 : Int32 → Int32 → jS → jL → Prop) (Q : Option Value → jS → jL → Prop) (x2 : Int32) (x4 : Int32) (x6 : Int32) (x7 : Int32) (t0 : Int32) (I : jS) (L : jL) : Prop := vp_in x4 8 ∧ (k3 x2 (x4 + (1 : Int32)) (u2 (u2 I 55 x4.toNatClampNeg ((x7 * ((12 : Int32) - x6)) + (t0 * x6))) 56 x4.toNatClampNeg (x7 * (12 : Int32))) L)
set_option maxRecDepth 100000 in
set_option maxHeartbeats 4000000 in
theorem wX1_look_67_ok {G : jG} {l : Launch} {d : Nat} {ic1 : Nat} {Q : Option Value → jS → jL → Prop} (hic1 : isIce ic1) {k3 : Int32 → Int32 → jS → jL → Prop} (hk3 : ∀ (x2 : Int32) (x4 : Int32) (I : jS) (L : jL), k3 x2 x4 I L → J G l yX1_look cX1_look 9 (d + 1) 0 0 3 [some (.ref 51), some (.ref ic1), some (.int x2), some (.ref 31), some (.int x4), none, none, none, none] [] (jKS, I, L, jR0) (jQm (none) Q)) : ∀ (x2 : Int32) (x4 : Int32) (x6 : Int32) (x7 : Int32) (t0 : Int32) (I : jS) (L : jL), wX1_look_67 G l d ic1 k3 Q x2 x4 x6 x7 t0 I L → J G l yX1_look cX1_look 9 (d + 1) 0 0 67 [some (.ref 51), some (.ref ic1), some (.int x2), some (.ref 31), some (.int x4), none, some (.int x6), some (.int x7), none] [.int t0] (jKS, I, L, jR0) (jQm (none) Q) := by
  intro x2 x4 x6 x7 t0 I L h
  rw [wX1_look_67] at h
  refine jr_istore dX1_look_67 (by decide) rfl ?_
  refine jr_aload_n dX1_look_69 rfl rfl ?_
  refine jr_geta ff_X1_26 ks_51 rr_51_3 dX1_look_70 ?_
  refine jr_iload dX1_look_73 rfl ?_
  refine jr_iload dX1_look_75 rfl ?_
  refine jr_bipush dX1_look_77 kbp_12 ?_
  refine jr_iload dX1_look_79 rfl ?_
  refine jr_isub dX1_look_81 ?_
  refine jr_imul dX1_look_82 ?_
  refine jr_iload dX1_look_83 rfl ?_
  refine jr_iload dX1_look_85 rfl ?_
  refine jr_imul dX1_look_87 ?_
  refine jr_iadd dX1_look_88 ?_
  obtain ⟨g1, h⟩ := h
  refine jr_iastore rfl ks_55 dX1_look_89 g1 ?_
  refine jr_aload_n dX1_look_90 rfl rfl ?_
  refine jr_geta ff_X1_30 ks_51 rr_51_4 dX1_look_91 ?_
  refine jr_iload dX1_look_94 rfl ?_
  refine jr_iload dX1_look_96 rfl ?_
  refine jr_bipush dX1_look_98 kbp_12 ?_
  refine jr_imul dX1_look_100 ?_
  refine jr_iastore rfl ks_56 dX1_look_101 g1 ?_
  refine jr_iinc dX1_look_102 rfl (by rw [kic_1]) (by decide) rfl ?_
  refine jr_goto dX1_look_105 (tgt := 3) (by decide) ?_
  exact J.sub (hk3 _ _ _ _ h) (jsub_some (jsub_some (jsub_some (jsub_some (jsub_some (jsub_none (jsub_none (jsub_none (jsub_none jsub_nil)))))))))
def wX1_look_48 (G : jG) (l : Launch) (d : Nat) (ic1 : Nat) (k3 : Int32 → Int32 → jS → jL → Prop) (Q : Option Value → jS → jL → Prop) (x2 : Int32) (x4 : Int32) (x5 : Int32) (x6 : Int32) (t0 : Int32) (I : jS) (L : jL) : Prop := cI G l mX1_holdsAll d [.ref 51, .ref ic1, .int x5, .ref 31, .int (1 : Int32)] I L (fun r1 I1 L1 => (if r1 = 0 then (wX1_look_67 G l d ic1 k3 Q x2 x4 x6 t0 (0 : Int32) I1 L1) else (wX1_look_67 G l d ic1 k3 Q x2 x4 x6 t0 (1 : Int32) I1 L1)))
set_option maxRecDepth 100000 in
set_option maxHeartbeats 4000000 in
theorem wX1_look_48_ok {G : jG} {l : Launch} {d : Nat} {ic1 : Nat} {Q : Option Value → jS → jL → Prop} (hic1 : isIce ic1) {k3 : Int32 → Int32 → jS → jL → Prop} (hk3 : ∀ (x2 : Int32) (x4 : Int32) (I : jS) (L : jL), k3 x2 x4 I L → J G l yX1_look cX1_look 9 (d + 1) 0 0 3 [some (.ref 51), some (.ref ic1), some (.int x2), some (.ref 31), some (.int x4), none, none, none, none] [] (jKS, I, L, jR0) (jQm (none) Q)) : ∀ (x2 : Int32) (x4 : Int32) (x5 : Int32) (x6 : Int32) (t0 : Int32) (I : jS) (L : jL), wX1_look_48 G l d ic1 k3 Q x2 x4 x5 x6 t0 I L → J G l yX1_look cX1_look 9 (d + 1) 0 0 48 [some (.ref 51), some (.ref ic1), some (.int x2), some (.ref 31), some (.int x4), some (.int x5), some (.int x6), none, none] [.int t0] (jKS, I, L, jR0) (jQm (none) Q) := by
  intro x2 x4 x5 x6 t0 I L h
  rw [wX1_look_48] at h
  refine jr_istore dX1_look_48 (by decide) rfl ?_
  refine jr_aload_n dX1_look_50 rfl rfl ?_
  refine jr_aload_n dX1_look_51 rfl rfl ?_
  refine jr_iload dX1_look_52 rfl ?_
  refine jr_aload_n dX1_look_54 rfl rfl ?_
  refine jr_iconst dX1_look_55 kic_1 ?_
  refine jr_callV (mc2 := 0) (mc := 0) (ms2 := 0) (ms := 0) vm_X1_39 (av := [.ref ic1, .int x5, .ref 31, .int (1 : Int32)]) (st := []) rfl rfl ks_51 (by decide) rfl (Nat.le_of_ble_eq_true rfl) dX1_look_56 (cI_use (M := (yX1_holdsAll, cX1_holdsAll, 6, some .boolean)) h ?_)
  intro r1 I1 L1 h
  refine jr_if_eq dX1_look_59 (tgt := 66) (by decide) (fun c => ?_) (fun c => ?_)
  · rw [if_pos c] at h
    refine jr_iconst dX1_look_66 kic_0 ?_
    exact J.sub (wX1_look_67_ok hic1 hk3 _ _ _ _ _ _ _ h) (jsub_some (jsub_some (jsub_some (jsub_some (jsub_some (jsub_none (jsub_some (jsub_some (jsub_none jsub_nil)))))))))
  · rw [if_neg c] at h
    refine jr_iconst dX1_look_62 kic_1 ?_
    refine jr_goto dX1_look_63 (tgt := 67) (by decide) ?_
    exact J.sub (wX1_look_67_ok hic1 hk3 _ _ _ _ _ _ _ h) (jsub_some (jsub_some (jsub_some (jsub_some (jsub_some (jsub_none (jsub_some (jsub_some (jsub_none jsub_nil)))))))))
def wX1_look_3 (G : jG) (l : Launch) (d : Nat) (ic1 : Nat) (Q : Option Value → jS → jL → Prop) : Nat → Int32 → Int32 → jS → jL → Prop
  | 0, _, _, _, _ => False
  | n3 + 1, x2, x4, I, L => if (8 : Int32) ≤ x4 then (Q none I L) else (cI G l mX7_get d [.ref 1, .int ((x2 * (8 : Int32)) + x4), .int (2 : Int32)] I L (fun r1 I1 L1 => (cI G l mX1_holdsAll d [.ref 51, .ref ic1, .int ((x2 * (8 : Int32)) + x4), .ref 31, .int (0 : Int32)] I1 L1 (fun r2 I2 L2 => (if r2 = 0 then (wX1_look_48 G l d ic1 (fun z0 z1 I L => wX1_look_3 G l d ic1 Q n3 z0 z1 I L) Q x2 x4 ((x2 * (8 : Int32)) + x4) r1 (0 : Int32) I2 L2) else (wX1_look_48 G l d ic1 (fun z0 z1 I L => wX1_look_3 G l d ic1 Q n3 z0 z1 I L) Q x2 x4 ((x2 * (8 : Int32)) + x4) r1 (1 : Int32) I2 L2))))))
set_option maxRecDepth 100000 in
set_option maxHeartbeats 4000000 in
theorem wX1_look_3_ok {G : jG} {l : Launch} {d : Nat} {ic1 : Nat} {Q : Option Value → jS → jL → Prop} (hic1 : isIce ic1) : ∀ (n : Nat) (x2 : Int32) (x4 : Int32) (I : jS) (L : jL), wX1_look_3 G l d ic1 Q n x2 x4 I L → J G l yX1_look cX1_look 9 (d + 1) 0 0 3 [some (.ref 51), some (.ref ic1), some (.int x2), some (.ref 31), some (.int x4), none, none, none, none] [] (jKS, I, L, jR0) (jQm (none) Q) := by
  intro n
  induction n with
  | zero => intro x2 x4 I L h; exact h.elim
  | succ n ih =>
    intro x2 x4 I L h
    rw [wX1_look_3] at h
    refine jr_iload dX1_look_3 rfl ?_
    refine jr_bipush dX1_look_5 kbp_8 ?_
    refine jr_icmp_ge dX1_look_7 (tgt := 108) (by decide) (fun c => ?_) (fun c => ?_)
    · rw [if_pos c] at h
      exact jr_return dX1_look_108 ⟨Or.inl ⟨rfl, rfl⟩, _, _, rfl, h⟩
    · rw [if_neg c] at h
      refine jr_iload_n dX1_look_10 rfl rfl ?_
      refine jr_bipush dX1_look_11 kbp_8 ?_
      refine jr_imul dX1_look_13 ?_
      refine jr_iload dX1_look_14 rfl ?_
      refine jr_iadd dX1_look_16 ?_
      refine jr_istore dX1_look_17 (by decide) rfl ?_
      refine jr_aload_n dX1_look_19 rfl rfl ?_
      refine jr_geta ff_X1_9 ks_51 rr_51_0 dX1_look_20 ?_
      refine jr_iload dX1_look_23 rfl ?_
      refine jr_iconst dX1_look_25 kic_2 ?_
      refine jr_callV (mc2 := 0) (mc := 0) (ms2 := 0) (ms := 0) vm_X1_33 (av := [.int ((x2 * (8 : Int32)) + x4), .int (2 : Int32)]) (st := []) rfl rfl ks_1 (by decide) rfl (Nat.le_of_ble_eq_true rfl) dX1_look_26 (cI_use (M := (yX7_get, cX7_get, 4, some .int)) h ?_)
      intro r1 I1 L1 h
      refine jr_istore dX1_look_29 (by decide) rfl ?_
      refine jr_aload_n dX1_look_31 rfl rfl ?_
      refine jr_aload_n dX1_look_32 rfl rfl ?_
      refine jr_iload dX1_look_33 rfl ?_
      refine jr_aload_n dX1_look_35 rfl rfl ?_
      refine jr_iconst dX1_look_36 kic_0 ?_
      refine jr_callV (mc2 := 0) (mc := 0) (ms2 := 0) (ms := 0) vm_X1_39 (av := [.ref ic1, .int ((x2 * (8 : Int32)) + x4), .ref 31, .int (0 : Int32)]) (st := []) rfl rfl ks_51 (by decide) rfl (Nat.le_of_ble_eq_true rfl) dX1_look_37 (cI_use (M := (yX1_holdsAll, cX1_holdsAll, 6, some .boolean)) h ?_)
      intro r2 I2 L2 h
      refine jr_if_eq dX1_look_40 (tgt := 47) (by decide) (fun c => ?_) (fun c => ?_)
      · rw [if_pos c] at h
        refine jr_iconst dX1_look_47 kic_0 ?_
        exact J.sub (wX1_look_48_ok hic1 ih _ _ _ _ _ _ _ h) (jsub_some (jsub_some (jsub_some (jsub_some (jsub_some (jsub_some (jsub_some (jsub_none (jsub_none jsub_nil)))))))))
      · rw [if_neg c] at h
        refine jr_iconst dX1_look_43 kic_1 ?_
        refine jr_goto dX1_look_44 (tgt := 48) (by decide) ?_
        exact J.sub (wX1_look_48_ok hic1 ih _ _ _ _ _ _ _ h) (jsub_some (jsub_some (jsub_some (jsub_some (jsub_some (jsub_some (jsub_some (jsub_none (jsub_none jsub_nil)))))))))
def wX1_look (G : jG) (l : Launch) (d : Nat) (ic1 : Nat) (x2 : Int32) (I : jS) (L : jL) (Q : Option Value → jS → jL → Prop) : Prop := ∃ e3 : Nat, wX1_look_3 G l d ic1 Q e3 x2 (0 : Int32) I L
set_option maxRecDepth 100000 in
set_option maxHeartbeats 4000000 in
theorem wX1_look_ok {G : jG} {l : Launch} {d : Nat} {ic1 : Nat} {Q : Option Value → jS → jL → Prop} (hic1 : isIce ic1) {x2 : Int32} {I : jS} {L : jL} (h : wX1_look G l d ic1 x2 I L Q) : cM G l mX1_look (d + 1) [.ref 51, .ref ic1, .int x2, .ref 31] I L Q := by
  rw [wX1_look] at h
  show jCall G l yX1_look cX1_look 9 (none) (d + 1) 0 0 _ (jKS, I, L, jR0) _
  refine jCall_of (n0 := 5) (ls := [some (.ref 51), some (.ref ic1), some (.int x2), some (.ref 31), none, none, none, none, none]) (by decide +kernel) rfl (Nat.le_of_ble_eq_true rfl) (jQm_of ?_)
  refine jr_iconst dX1_look_0 kic_0 ?_
  refine jr_istore dX1_look_1 (by decide) rfl ?_
  obtain ⟨e3, h⟩ := h
  exact J.sub (wX1_look_3_ok hic1 e3 _ _ _ _ h) (jsub_some (jsub_some (jsub_some (jsub_some (jsub_some (jsub_none (jsub_none (jsub_none (jsub_none jsub_nil)))))))))
def wX1_holdsAll_32 (G : jG) (l : Launch) (d : Nat) (ic1 : Nat) (Q : Option Value → jS → jL → Prop) : Nat → Int32 → Int32 → jS → jL → Prop
  | 0, _, _, _, _ => False
  | n32 + 1, x2, x5, I, L => if (I 31 5) ≤ x5 then (Q (some (.int (1 : Int32))) I L) else (cI G l mX10_goerAt d [.ref 31, .int x5] I L (fun r1 I1 L1 => (cV G l mX3_ready d [.ref 23, .int r1, .int (0 : Int32)] I1 L1 (fun I2 L2 => (cI G l mX3_steps d [.ref 23, .ref 52, .int x2] I2 L2 (fun r3 I3 L3 => (if r3 = 0 then (Q (some (.int (0 : Int32))) I3 L3) else (cV G l mX3_passBehind d [.ref 23, .ref 52] I3 L3 (fun I4 L4 => ((wX1_holdsAll_32 G l d ic1 Q n32) x2 (x5 + (1 : Int32)) I4 L4))))))))))
set_option maxRecDepth 100000 in
set_option maxHeartbeats 4000000 in
theorem wX1_holdsAll_32_ok {G : jG} {l : Launch} {d : Nat} {ic1 : Nat} {Q : Option Value → jS → jL → Prop} (hic1 : isIce ic1) : ∀ (n : Nat) (x2 : Int32) (x5 : Int32) (I : jS) (L : jL), wX1_holdsAll_32 G l d ic1 Q n x2 x5 I L → J G l yX1_holdsAll cX1_holdsAll 6 (d + 1) 0 0 32 [some (.ref 51), none, some (.int x2), some (.ref 31), none, some (.int x5)] [] (jKS, I, L, jR0) (jQm (some .boolean) Q) := by
  intro n
  induction n with
  | zero => intro x2 x5 I L h; exact h.elim
  | succ n ih =>
    intro x2 x5 I L h
    rw [wX1_holdsAll_32] at h
    refine jr_iload dX1_holdsAll_32 rfl ?_
    refine jr_aload_n dX1_holdsAll_34 rfl rfl ?_
    refine jv_geti rfl ff_X1_53 ks_31 dX1_holdsAll_35 ?_
    refine jr_icmp_ge dX1_holdsAll_38 (tgt := 89) (by decide) (fun c => ?_) (fun c => ?_)
    · rw [if_pos c] at h
      refine jr_iconst dX1_holdsAll_89 kic_1 ?_
      exact jr_ireturn dX1_holdsAll_90 ⟨Or.inr (Or.inr (Or.inr ⟨rfl, Or.inr rfl⟩)), _, _, rfl, h⟩
    · rw [if_neg c] at h
      refine jr_aload_n dX1_holdsAll_41 rfl rfl ?_
      refine jr_geta ff_X1_15 ks_51 rr_51_1 dX1_holdsAll_42 ?_
      refine jr_aload_n dX1_holdsAll_45 rfl rfl ?_
      refine jr_iload dX1_holdsAll_46 rfl ?_
      refine jr_callV (mc2 := 0) (mc := 0) (ms2 := 0) (ms := 0) vm_X1_59 (av := [.int x5]) (st := [.ref 23]) rfl rfl ks_31 (by decide) rfl (Nat.le_of_ble_eq_true rfl) dX1_holdsAll_48 (cI_use (M := (yX10_goerAt, cX10_goerAt, 2, some .int)) h ?_)
      intro r1 I1 L1 h
      refine jr_iconst dX1_holdsAll_51 kic_0 ?_
      refine jr_callV (mc2 := 0) (mc := 0) (ms2 := 0) (ms := 0) vm_X1_63 (av := [.int r1, .int (0 : Int32)]) (st := []) rfl rfl ks_23 (by decide) rfl (Nat.le_of_ble_eq_true rfl) dX1_holdsAll_52 (cV_use (M := (yX3_ready, cX3_ready, 4, none)) h ?_)
      intro I2 L2 h
      refine jr_aload_n dX1_holdsAll_55 rfl rfl ?_
      refine jr_geta ff_X1_15 ks_51 rr_51_1 dX1_holdsAll_56 ?_
      refine jr_aload_n dX1_holdsAll_59 rfl rfl ?_
      refine jr_geta ff_X1_22 ks_51 rr_51_2 dX1_holdsAll_60 ?_
      refine jr_iload_n dX1_holdsAll_63 rfl rfl ?_
      refine jr_callV (mc2 := 0) (mc := 0) (ms2 := 0) (ms := 0) vm_X1_67 (av := [.ref 52, .int x2]) (st := []) rfl rfl ks_23 (by decide) rfl (Nat.le_of_ble_eq_true rfl) dX1_holdsAll_64 (cI_use (M := (yX3_steps, cX3_steps, 6, some .boolean)) h ?_)
      intro r3 I3 L3 h
      refine jr_if_ne dX1_holdsAll_67 (tgt := 72) (by decide) (fun c => ?_) (fun c => ?_)
      · rw [if_neg c] at h
        refine jr_aload_n dX1_holdsAll_72 rfl rfl ?_
        refine jr_geta ff_X1_15 ks_51 rr_51_1 dX1_holdsAll_73 ?_
        refine jr_aload_n dX1_holdsAll_76 rfl rfl ?_
        refine jr_geta ff_X1_22 ks_51 rr_51_2 dX1_holdsAll_77 ?_
        refine jr_callV (mc2 := 0) (mc := 0) (ms2 := 0) (ms := 0) vm_X1_71 (av := [.ref 52]) (st := []) rfl rfl ks_23 (by decide) rfl (Nat.le_of_ble_eq_true rfl) dX1_holdsAll_80 (cV_use (M := (yX3_passBehind, cX3_passBehind, 2, none)) h ?_)
        intro I4 L4 h
        refine jr_iinc dX1_holdsAll_83 rfl (by rw [kic_1]) (by decide) rfl ?_
        refine jr_goto dX1_holdsAll_86 (tgt := 32) (by decide) ?_
        exact J.sub (ih _ _ _ _ h) (jsub_some (jsub_none (jsub_some (jsub_some (jsub_none (jsub_some jsub_nil))))))
      · rw [if_pos c] at h
        refine jr_iconst dX1_holdsAll_70 kic_0 ?_
        exact jr_ireturn dX1_holdsAll_71 ⟨Or.inr (Or.inr (Or.inr ⟨rfl, Or.inl rfl⟩)), _, _, rfl, h⟩
def wX1_holdsAll (G : jG) (l : Launch) (d : Nat) (ic1 : Nat) (x2 : Int32) (x4 : Int32) (I : jS) (L : jL) (Q : Option Value → jS → jL → Prop) : Prop := cV G l mX3_follow d [.ref 23, .ref 52, .ref ic1] I L (fun I1 L1 => (if x4 = 0 then (∃ e32 : Nat, wX1_holdsAll_32 G l d ic1 Q e32 x2 (0 : Int32) I1 L1) else (cV G l mX3_thin d [.ref 23, .ref 52, .int x2] I1 L1 (fun I2 L2 => (∃ e32 : Nat, wX1_holdsAll_32 G l d ic1 Q e32 x2 (0 : Int32) I2 L2)))))
set_option maxRecDepth 100000 in
set_option maxHeartbeats 4000000 in
theorem wX1_holdsAll_ok {G : jG} {l : Launch} {d : Nat} {ic1 : Nat} {Q : Option Value → jS → jL → Prop} (hic1 : isIce ic1) {x2 : Int32} {x4 : Int32} {I : jS} {L : jL} (h : wX1_holdsAll G l d ic1 x2 x4 I L Q) : cM G l mX1_holdsAll (d + 1) [.ref 51, .ref ic1, .int x2, .ref 31, .int x4] I L Q := by
  rw [wX1_holdsAll] at h
  show jCall G l yX1_holdsAll cX1_holdsAll 6 (some .boolean) (d + 1) 0 0 _ (jKS, I, L, jR0) _
  refine jCall_of (n0 := 1) (ls := [some (.ref 51), some (.ref ic1), some (.int x2), some (.ref 31), some (.int x4), none]) (by decide +kernel) rfl (Nat.le_of_ble_eq_true rfl) (jQm_of ?_)
  refine jr_aload_n dX1_holdsAll_0 rfl rfl ?_
  refine jr_geta ff_X1_15 ks_51 rr_51_1 dX1_holdsAll_1 ?_
  refine jr_aload_n dX1_holdsAll_4 rfl rfl ?_
  refine jr_geta ff_X1_22 ks_51 rr_51_2 dX1_holdsAll_5 ?_
  refine jr_aload_n dX1_holdsAll_8 rfl rfl ?_
  refine jr_callV (mc2 := 0) (mc := 0) (ms2 := 0) (ms := 0) vm_X1_43 (av := [.ref 52, .ref ic1]) (st := []) rfl rfl ks_23 (by decide) rfl (Nat.le_of_ble_eq_true rfl) dX1_holdsAll_9 (cV_use (M := (yX3_follow, cX3_follow, 3, none)) h ?_)
  intro I1 L1 h
  refine jr_iload dX1_holdsAll_12 rfl ?_
  refine jr_if_eq dX1_holdsAll_14 (tgt := 29) (by decide) (fun c => ?_) (fun c => ?_)
  · rw [if_pos c] at h
    refine jr_iconst dX1_holdsAll_29 kic_0 ?_
    refine jr_istore dX1_holdsAll_30 (by decide) rfl ?_
    obtain ⟨e32, h⟩ := h
    exact J.sub (wX1_holdsAll_32_ok hic1 e32 _ _ _ _ h) (jsub_some (jsub_none (jsub_some (jsub_some (jsub_none (jsub_some jsub_nil))))))
  · rw [if_neg c] at h
    refine jr_aload_n dX1_holdsAll_17 rfl rfl ?_
    refine jr_geta ff_X1_15 ks_51 rr_51_1 dX1_holdsAll_18 ?_
    refine jr_aload_n dX1_holdsAll_21 rfl rfl ?_
    refine jr_geta ff_X1_22 ks_51 rr_51_2 dX1_holdsAll_22 ?_
    refine jr_iload_n dX1_holdsAll_25 rfl rfl ?_
    refine jr_callV (mc2 := 0) (mc := 0) (ms2 := 0) (ms := 0) vm_X1_49 (av := [.ref 52, .int x2]) (st := []) rfl rfl ks_23 (by decide) rfl (Nat.le_of_ble_eq_true rfl) dX1_holdsAll_26 (cV_use (M := (yX3_thin, cX3_thin, 3, none)) h ?_)
    intro I2 L2 h
    refine jr_iconst dX1_holdsAll_29 kic_0 ?_
    refine jr_istore dX1_holdsAll_30 (by decide) rfl ?_
    obtain ⟨e32, h⟩ := h
    exact J.sub (wX1_holdsAll_32_ok hic1 e32 _ _ _ _ h) (jsub_some (jsub_none (jsub_some (jsub_some (jsub_none (jsub_some jsub_nil))))))
def wX1_likely (G : jG) (l : Launch) (d : Nat) (I : jS) (L : jL) (Q : Option Value → jS → jL → Prop) : Prop := cJ G l mX1_likelyBored d [.ref 51, .int (-1 : Int32)] I L (fun r1 I1 L1 => (Q (some (.long r1)) I1 L1))
set_option maxRecDepth 100000 in
set_option maxHeartbeats 4000000 in
theorem wX1_likely_ok {G : jG} {l : Launch} {d : Nat} {Q : Option Value → jS → jL → Prop} {I : jS} {L : jL} (h : wX1_likely G l d I L Q) : cM G l mX1_likely (d + 1) [.ref 51] I L Q := by
  rw [wX1_likely] at h
  show jCall G l yX1_likely cX1_likely 1 (some .long) (d + 1) 0 0 _ (jKS, I, L, jR0) _
  refine jCall_of (n0 := 0) (ls := [some (.ref 51)]) (by decide +kernel) rfl (Nat.le_of_ble_eq_true rfl) (jQm_of ?_)
  refine jr_aload_n dX1_likely_0 rfl rfl ?_
  refine jr_iconst dX1_likely_1 kic_m1 ?_
  refine jr_callV (mc2 := 0) (mc := 0) (ms2 := 0) (ms := 0) vm_X1_75 (av := [.int (-1 : Int32)]) (st := []) rfl rfl ks_51 (by decide) rfl (Nat.le_of_ble_eq_true rfl) dX1_likely_2 (cJ_use (M := (yX1_likelyBored, cX1_likelyBored, 5, some .long)) h ?_)
  intro r1 I1 L1 h
  exact jr_lreturn dX1_likely_5 ⟨Or.inr (Or.inr (Or.inl ⟨rfl, _, rfl⟩)), _, _, rfl, h⟩
def wX1_likelyBored_5 (G : jG) (l : Launch) (d : Nat) (Q : Option Value → jS → jL → Prop) : Nat → Int32 → Int64 → Int32 → jS → jL → Prop
  | 0, _, _, _, _, _ => False
  | n5 + 1, x1, y2, x4, I, L => if (8 : Int32) ≤ x4 then (Q (some (.long y2)) I L) else (if x4 = x1 then (vp_in x4 8 ∧ ((wX1_likelyBored_5 G l d Q n5) x1 (y2 * (I 56 x4.toNatClampNeg).toInt64) (x4 + (1 : Int32)) I L)) else (vp_in x4 8 ∧ ((wX1_likelyBored_5 G l d Q n5) x1 (y2 * (I 55 x4.toNatClampNeg).toInt64) (x4 + (1 : Int32)) I L)))
set_option maxRecDepth 100000 in
set_option maxHeartbeats 4000000 in
theorem wX1_likelyBored_5_ok {G : jG} {l : Launch} {d : Nat} {Q : Option Value → jS → jL → Prop} : ∀ (n : Nat) (x1 : Int32) (y2 : Int64) (x4 : Int32) (I : jS) (L : jL), wX1_likelyBored_5 G l d Q n x1 y2 x4 I L → J G l yX1_likelyBored cX1_likelyBored 5 (d + 1) 0 0 5 [some (.ref 51), some (.int x1), some (.long y2), none, some (.int x4)] [] (jKS, I, L, jR0) (jQm (some .long) Q) := by
  intro n
  induction n with
  | zero => intro x1 y2 x4 I L h; exact h.elim
  | succ n ih =>
    intro x1 y2 x4 I L h
    rw [wX1_likelyBored_5] at h
    refine jr_iload dX1_likelyBored_5 rfl ?_
    refine jr_bipush dX1_likelyBored_7 kbp_8 ?_
    refine jr_icmp_ge dX1_likelyBored_9 (tgt := 46) (by decide) (fun c => ?_) (fun c => ?_)
    · rw [if_pos c] at h
      refine jr_lload_n dX1_likelyBored_46 rfl rfl ?_
      exact jr_lreturn dX1_likelyBored_47 ⟨Or.inr (Or.inr (Or.inl ⟨rfl, _, rfl⟩)), _, _, rfl, h⟩
    · rw [if_neg c] at h
      refine jr_lload_n dX1_likelyBored_12 rfl rfl ?_
      refine jr_iload dX1_likelyBored_13 rfl ?_
      refine jr_iload_n dX1_likelyBored_15 rfl rfl ?_
      refine jr_icmp_ne dX1_likelyBored_16 (tgt := 30) (by decide) (fun c => ?_) (fun c => ?_)
      · rw [if_neg c] at h
        refine jr_aload_n dX1_likelyBored_30 rfl rfl ?_
        refine jr_geta ff_X1_26 ks_51 rr_51_3 dX1_likelyBored_31 ?_
        refine jr_iload dX1_likelyBored_34 rfl ?_
        obtain ⟨g1, h⟩ := h
        refine jv_iaload rfl rfl ks_55 dX1_likelyBored_36 g1 ?_
        refine jr_i2l dX1_likelyBored_37 ?_
        refine jr_lmul dX1_likelyBored_38 ?_
        refine jr_lstore_n dX1_likelyBored_39 rfl (by decide) rfl ?_
        refine jr_iinc dX1_likelyBored_40 rfl (by rw [kic_1]) (by decide) rfl ?_
        refine jr_goto dX1_likelyBored_43 (tgt := 5) (by decide) ?_
        exact J.sub (ih _ _ _ _ _ h) (jsub_some (jsub_some (jsub_some (jsub_none (jsub_some jsub_nil)))))
      · rw [if_pos c] at h
        refine jr_aload_n dX1_likelyBored_19 rfl rfl ?_
        refine jr_geta ff_X1_30 ks_51 rr_51_4 dX1_likelyBored_20 ?_
        refine jr_iload dX1_likelyBored_23 rfl ?_
        obtain ⟨g2, h⟩ := h
        refine jv_iaload rfl rfl ks_56 dX1_likelyBored_25 g2 ?_
        refine jr_i2l dX1_likelyBored_26 ?_
        refine jr_goto dX1_likelyBored_27 (tgt := 38) (by decide) ?_
        refine jr_lmul dX1_likelyBored_38 ?_
        refine jr_lstore_n dX1_likelyBored_39 rfl (by decide) rfl ?_
        refine jr_iinc dX1_likelyBored_40 rfl (by rw [kic_1]) (by decide) rfl ?_
        refine jr_goto dX1_likelyBored_43 (tgt := 5) (by decide) ?_
        exact J.sub (ih _ _ _ _ _ h) (jsub_some (jsub_some (jsub_some (jsub_none (jsub_some jsub_nil)))))
def wX1_likelyBored (G : jG) (l : Launch) (d : Nat) (x1 : Int32) (I : jS) (L : jL) (Q : Option Value → jS → jL → Prop) : Prop := ∃ e5 : Nat, wX1_likelyBored_5 G l d Q e5 x1 (1 : Int64) (0 : Int32) I L
set_option maxRecDepth 100000 in
set_option maxHeartbeats 4000000 in
theorem wX1_likelyBored_ok {G : jG} {l : Launch} {d : Nat} {Q : Option Value → jS → jL → Prop} {x1 : Int32} {I : jS} {L : jL} (h : wX1_likelyBored G l d x1 I L Q) : cM G l mX1_likelyBored (d + 1) [.ref 51, .int x1] I L Q := by
  rw [wX1_likelyBored] at h
  show jCall G l yX1_likelyBored cX1_likelyBored 5 (some .long) (d + 1) 0 0 _ (jKS, I, L, jR0) _
  refine jCall_of (n0 := 3) (ls := [some (.ref 51), some (.int x1), none, none, none]) (by decide +kernel) rfl (Nat.le_of_ble_eq_true rfl) (jQm_of ?_)
  refine jr_lconst dX1_likelyBored_0 klc_1 ?_
  refine jr_lstore_n dX1_likelyBored_1 rfl (by decide) rfl ?_
  refine jr_iconst dX1_likelyBored_2 kic_0 ?_
  refine jr_istore dX1_likelyBored_3 (by decide) rfl ?_
  obtain ⟨e5, h⟩ := h
  exact J.sub (wX1_likelyBored_5_ok  e5 _ _ _ _ _ h) (jsub_some (jsub_some (jsub_some (jsub_none (jsub_some jsub_nil)))))
def wX1_bestBored_4 (G : jG) (l : Launch) (d : Nat) (Q : Option Value → jS → jL → Prop) : Nat → Int32 → Int32 → jS → jL → Prop
  | 0, _, _, _, _ => False
  | n4 + 1, x1, x2, I, L => if (8 : Int32) ≤ x2 then (Q (some (.int x1)) I L) else (cJ G l mX1_likelyBored d [.ref 51, .int x2] I L (fun r1 I1 L1 => (cJ G l mX1_likelyBored d [.ref 51, .int x1] I1 L1 (fun r2 I2 L2 => (if (lg_cmp r1 r2) ≤ 0 then ((wX1_bestBored_4 G l d Q n4) x1 (x2 + (1 : Int32)) I2 L2) else ((wX1_bestBored_4 G l d Q n4) x2 (x2 + (1 : Int32)) I2 L2))))))
set_option maxRecDepth 100000 in
set_option maxHeartbeats 4000000 in
theorem wX1_bestBored_4_ok {G : jG} {l : Launch} {d : Nat} {Q : Option Value → jS → jL → Prop} : ∀ (n : Nat) (x1 : Int32) (x2 : Int32) (I : jS) (L : jL), wX1_bestBored_4 G l d Q n x1 x2 I L → J G l yX1_bestBored cX1_bestBored 3 (d + 1) 0 0 4 [some (.ref 51), some (.int x1), some (.int x2)] [] (jKS, I, L, jR0) (jQm (some .int) Q) := by
  intro n
  induction n with
  | zero => intro x1 x2 I L h; exact h.elim
  | succ n ih =>
    intro x1 x2 I L h
    rw [wX1_bestBored_4] at h
    refine jr_iload_n dX1_bestBored_4 rfl rfl ?_
    refine jr_bipush dX1_bestBored_5 kbp_8 ?_
    refine jr_icmp_ge dX1_bestBored_7 (tgt := 32) (by decide) (fun c => ?_) (fun c => ?_)
    · rw [if_pos c] at h
      refine jr_iload_n dX1_bestBored_32 rfl rfl ?_
      exact jr_ireturn dX1_bestBored_33 ⟨Or.inr (Or.inl ⟨rfl, _, rfl⟩), _, _, rfl, h⟩
    · rw [if_neg c] at h
      refine jr_aload_n dX1_bestBored_10 rfl rfl ?_
      refine jr_iload_n dX1_bestBored_11 rfl rfl ?_
      refine jr_callV (mc2 := 0) (mc := 0) (ms2 := 0) (ms := 0) vm_X1_75 (av := [.int x2]) (st := []) rfl rfl ks_51 (by decide) rfl (Nat.le_of_ble_eq_true rfl) dX1_bestBored_12 (cJ_use (M := (yX1_likelyBored, cX1_likelyBored, 5, some .long)) h ?_)
      intro r1 I1 L1 h
      refine jr_aload_n dX1_bestBored_15 rfl rfl ?_
      refine jr_iload_n dX1_bestBored_16 rfl rfl ?_
      refine jr_callV (mc2 := 0) (mc := 0) (ms2 := 0) (ms := 0) vm_X1_75 (av := [.int x1]) (st := [.long r1]) rfl rfl ks_51 (by decide) rfl (Nat.le_of_ble_eq_true rfl) dX1_bestBored_17 (cJ_use (M := (yX1_likelyBored, cX1_likelyBored, 5, some .long)) h ?_)
      intro r2 I2 L2 h
      refine jr_lcmp dX1_bestBored_20 ?_
      refine jr_if_le dX1_bestBored_21 (tgt := 26) (by decide) (fun c => ?_) (fun c => ?_)
      · rw [if_pos c] at h
        refine jr_iinc dX1_bestBored_26 rfl (by rw [kic_1]) (by decide) rfl ?_
        refine jr_goto dX1_bestBored_29 (tgt := 4) (by decide) ?_
        exact J.sub (ih _ _ _ _ h) (jsub_some (jsub_some (jsub_some jsub_nil)))
      · rw [if_neg c] at h
        refine jr_iload_n dX1_bestBored_24 rfl rfl ?_
        refine jr_istore_n dX1_bestBored_25 rfl (by decide) rfl ?_
        refine jr_iinc dX1_bestBored_26 rfl (by rw [kic_1]) (by decide) rfl ?_
        refine jr_goto dX1_bestBored_29 (tgt := 4) (by decide) ?_
        exact J.sub (ih _ _ _ _ h) (jsub_some (jsub_some (jsub_some jsub_nil)))
def wX1_bestBored (G : jG) (l : Launch) (d : Nat) (I : jS) (L : jL) (Q : Option Value → jS → jL → Prop) : Prop := ∃ e4 : Nat, wX1_bestBored_4 G l d Q e4 (0 : Int32) (1 : Int32) I L
set_option maxRecDepth 100000 in
set_option maxHeartbeats 4000000 in
theorem wX1_bestBored_ok {G : jG} {l : Launch} {d : Nat} {Q : Option Value → jS → jL → Prop} {I : jS} {L : jL} (h : wX1_bestBored G l d I L Q) : cM G l mX1_bestBored (d + 1) [.ref 51] I L Q := by
  rw [wX1_bestBored] at h
  show jCall G l yX1_bestBored cX1_bestBored 3 (some .int) (d + 1) 0 0 _ (jKS, I, L, jR0) _
  refine jCall_of (n0 := 2) (ls := [some (.ref 51), none, none]) (by decide +kernel) rfl (Nat.le_of_ble_eq_true rfl) (jQm_of ?_)
  refine jr_iconst dX1_bestBored_0 kic_0 ?_
  refine jr_istore_n dX1_bestBored_1 rfl (by decide) rfl ?_
  refine jr_iconst dX1_bestBored_2 kic_1 ?_
  refine jr_istore_n dX1_bestBored_3 rfl (by decide) rfl ?_
  obtain ⟨e4, h⟩ := h
  exact J.sub (wX1_bestBored_4_ok  e4 _ _ _ _ h) (jsub_some (jsub_some (jsub_some jsub_nil)))
def wX1_part (G : jG) (l : Launch) (d : Nat) (y1 : Int64) (x3 : Int32) (I : jS) (L : jL) (Q : Option Value → jS → jL → Prop) : Prop := cJ G l mX1_common d [.long y1, .long (429981696 : Int64)] I L (fun r1 I1 L1 => (if (lg_cmp r1 (0 : Int64)) = 0 then (Q (some (.long (0 : Int64))) I1 L1) else (if x3 = 0 then (¬ r1 = 0 ∧ (Q (some (.long (y1 / r1))) I1 L1)) else (¬ r1 = 0 ∧ (Q (some (.long ((429981696 : Int64) / r1))) I1 L1)))))
set_option maxRecDepth 100000 in
set_option maxHeartbeats 4000000 in
theorem wX1_part_ok {G : jG} {l : Launch} {d : Nat} {Q : Option Value → jS → jL → Prop} {y1 : Int64} {x3 : Int32} {I : jS} {L : jL} (h : wX1_part G l d y1 x3 I L Q) : cM G l mX1_part (d + 1) [.ref 51, .long y1, .int x3] I L Q := by
  rw [wX1_part] at h
  show jCall G l yX1_part cX1_part 6 (some .long) (d + 1) 0 0 _ (jKS, I, L, jR0) _
  refine jCall_of (n0 := 2) (ls := [some (.ref 51), some (.long y1), none, some (.int x3), none, none]) (by decide +kernel) rfl (Nat.le_of_ble_eq_true rfl) (jQm_of ?_)
  refine jr_lload_n dX1_part_0 rfl rfl ?_
  refine jr_ldc2 kl_X1_79 dX1_part_1 ?_
  refine jr_callS (mc2 := 0) (mc := 0) (ms2 := 0) (ms := 0) vm_X1_81 (av := [.long y1, .long (429981696 : Int64)]) (st := []) rfl rfl (Nat.le_of_ble_eq_true rfl) dX1_part_4 (cJ_use (M := (yX1_common, cX1_common, 11, some .long)) h ?_)
  intro r1 I1 L1 h
  refine jr_lstore dX1_part_7 (by decide) rfl ?_
  refine jr_lload dX1_part_9 rfl ?_
  refine jr_lconst dX1_part_11 klc_0 ?_
  refine jr_lcmp dX1_part_12 ?_
  refine jr_if_ne dX1_part_13 (tgt := 18) (by decide) (fun c => ?_) (fun c => ?_)
  · rw [if_neg c] at h
    refine jr_iload_n dX1_part_18 rfl rfl ?_
    refine jr_if_ne dX1_part_19 (tgt := 26) (by decide) (fun c => ?_) (fun c => ?_)
    · rw [if_neg c] at h
      refine jr_ldc2 kl_X1_79 dX1_part_26 ?_
      refine jr_lload dX1_part_29 rfl ?_
      obtain ⟨g2, h⟩ := h
      refine jr_ldiv dX1_part_31 g2 ?_
      exact jr_lreturn dX1_part_32 ⟨Or.inr (Or.inr (Or.inl ⟨rfl, _, rfl⟩)), _, _, rfl, h⟩
    · rw [if_pos c] at h
      refine jr_lload_n dX1_part_22 rfl rfl ?_
      refine jr_goto dX1_part_23 (tgt := 29) (by decide) ?_
      refine jr_lload dX1_part_29 rfl ?_
      obtain ⟨g3, h⟩ := h
      refine jr_ldiv dX1_part_31 g3 ?_
      exact jr_lreturn dX1_part_32 ⟨Or.inr (Or.inr (Or.inl ⟨rfl, _, rfl⟩)), _, _, rfl, h⟩
  · rw [if_pos c] at h
    refine jr_lconst dX1_part_16 klc_0 ?_
    exact jr_lreturn dX1_part_17 ⟨Or.inr (Or.inr (Or.inl ⟨rfl, _, rfl⟩)), _, _, rfl, h⟩
def wX1_common_9 (G : jG) (l : Launch) (d : Nat) (Q : Option Value → jS → jL → Prop) : Nat → Int64 → Int64 → Int32 → jS → jL → Prop
  | 0, _, _, _, _, _ => False
  | n9 + 1, y4, y6, x8, I, L => if (200 : Int32) ≤ x8 then (Q (some (.long y4)) I L) else (if (lg_cmp y6 (0 : Int64)) = 0 then (Q (some (.long y4)) I L) else (¬ y6 = 0 ∧ ((wX1_common_9 G l d Q n9) y6 (y4 - y4 / y6 * y6) (x8 + (1 : Int32)) I L)))
set_option maxRecDepth 100000 in
set_option maxHeartbeats 4000000 in
theorem wX1_common_9_ok {G : jG} {l : Launch} {d : Nat} {Q : Option Value → jS → jL → Prop} : ∀ (n : Nat) (y4 : Int64) (y6 : Int64) (x8 : Int32) (I : jS) (L : jL), wX1_common_9 G l d Q n y4 y6 x8 I L → J G l yX1_common cX1_common 11 (d + 1) 0 0 9 [none, none, none, none, some (.long y4), none, some (.long y6), none, some (.int x8), none, none] [] (jKS, I, L, jR0) (jQm (some .long) Q) := by
  intro n
  induction n with
  | zero => intro y4 y6 x8 I L h; exact h.elim
  | succ n ih =>
    intro y4 y6 x8 I L h
    rw [wX1_common_9] at h
    refine jr_iload dX1_common_9 rfl ?_
    refine jr_sipush dX1_common_11 ksp_200 ?_
    refine jr_icmp_ge dX1_common_14 (tgt := 45) (by decide) (fun c => ?_) (fun c => ?_)
    · rw [if_pos c] at h
      refine jr_lload dX1_common_45 rfl ?_
      exact jr_lreturn dX1_common_47 ⟨Or.inr (Or.inr (Or.inl ⟨rfl, _, rfl⟩)), _, _, rfl, h⟩
    · rw [if_neg c] at h
      refine jr_lload dX1_common_17 rfl ?_
      refine jr_lconst dX1_common_19 klc_0 ?_
      refine jr_lcmp dX1_common_20 ?_
      refine jr_if_eq dX1_common_21 (tgt := 45) (by decide) (fun c => ?_) (fun c => ?_)
      · rw [if_pos c] at h
        refine jr_lload dX1_common_45 rfl ?_
        exact jr_lreturn dX1_common_47 ⟨Or.inr (Or.inr (Or.inl ⟨rfl, _, rfl⟩)), _, _, rfl, h⟩
      · rw [if_neg c] at h
        refine jr_lload dX1_common_24 rfl ?_
        refine jr_lload dX1_common_26 rfl ?_
        obtain ⟨g1, h⟩ := h
        refine jr_lrem dX1_common_28 g1 ?_
        refine jr_lstore dX1_common_29 (by decide) rfl ?_
        refine jr_lload dX1_common_31 rfl ?_
        refine jr_lstore dX1_common_33 (by decide) rfl ?_
        refine jr_lload dX1_common_35 rfl ?_
        refine jr_lstore dX1_common_37 (by decide) rfl ?_
        refine jr_iinc dX1_common_39 rfl (by rw [kic_1]) (by decide) rfl ?_
        refine jr_goto dX1_common_42 (tgt := 9) (by decide) ?_
        exact J.sub (ih _ _ _ _ _ h) (jsub_none (jsub_none (jsub_none (jsub_none (jsub_some (jsub_none (jsub_some (jsub_none (jsub_some (jsub_none (jsub_none jsub_nil)))))))))))
def wX1_common (G : jG) (l : Launch) (d : Nat) (y0 : Int64) (y2 : Int64) (I : jS) (L : jL) (Q : Option Value → jS → jL → Prop) : Prop := ∃ e9 : Nat, wX1_common_9 G l d Q e9 y0 y2 (0 : Int32) I L
set_option maxRecDepth 100000 in
set_option maxHeartbeats 4000000 in
theorem wX1_common_ok {G : jG} {l : Launch} {d : Nat} {Q : Option Value → jS → jL → Prop} {y0 : Int64} {y2 : Int64} {I : jS} {L : jL} (h : wX1_common G l d y0 y2 I L Q) : cM G l mX1_common (d + 1) [.long y0, .long y2] I L Q := by
  rw [wX1_common] at h
  show jCall G l yX1_common cX1_common 11 (some .long) (d + 1) 0 0 _ (jKS, I, L, jR0) _
  refine jCall_of (n0 := 7) (ls := [some (.long y0), none, some (.long y2), none, none, none, none, none, none, none, none]) (by decide +kernel) rfl (Nat.le_of_ble_eq_true rfl) (jQm_of ?_)
  refine jr_lload_n dX1_common_0 rfl rfl ?_
  refine jr_lstore dX1_common_1 (by decide) rfl ?_
  refine jr_lload_n dX1_common_3 rfl rfl ?_
  refine jr_lstore dX1_common_4 (by decide) rfl ?_
  refine jr_iconst dX1_common_6 kic_0 ?_
  refine jr_istore dX1_common_7 (by decide) rfl ?_
  obtain ⟨e9, h⟩ := h
  exact J.sub (wX1_common_9_ok  e9 _ _ _ _ _ h) (jsub_none (jsub_none (jsub_none (jsub_none (jsub_some (jsub_none (jsub_some (jsub_none (jsub_some (jsub_none (jsub_none jsub_nil)))))))))))

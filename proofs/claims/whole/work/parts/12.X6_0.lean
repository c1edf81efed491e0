def wX6_take (G : jG) (l : Launch) (d : Nat) (x1 : Int32) (I : jS) (L : jL) (Q : Option Value → jS → jL → Prop) : Prop := if (I 17 5) < 0 then (Q (some (.int (0 : Int32))) I L) else (if (I 17 5) < (120 : Int32) then (vp_in (I 17 5) 120 ∧ (Q (some (.int (1 : Int32))) (u2 (u2 I 18 ((I 17 5).toNatClampNeg) x1) 17 5 ((I 17 5) + (1 : Int32))) L)) else (Q (some (.int (0 : Int32))) I L))
set_option maxRecDepth 100000 in
set_option maxHeartbeats 4000000 in
theorem wX6_take_ok {G : jG} {l : Launch} {d : Nat} {Q : Option Value → jS → jL → Prop} {x1 : Int32} {I : jS} {L : jL} (h : wX6_take G l d x1 I L Q) : cM G l mX6_take (d + 1) [.ref 17, .int x1] I L Q := by
  rw [wX6_take] at h
  show jCall G l yX6_take cX6_take 2 (some .boolean) (d + 1) 0 0 _ (jKS, I, L, jR0) _
  refine jCall_of (n0 := 0) (ls := [some (.ref 17), some (.int x1)]) (by decide +kernel) rfl (Nat.le_of_ble_eq_true rfl) (jQm_of ?_)
  refine jr_aload_n dX6_take_0 rfl rfl ?_
  refine jv_geti rfl ff_X6_25 ks_17 dX6_take_1 ?_
  refine jr_if_lt dX6_take_4 (tgt := 16) (by decide) (fun c => ?_) (fun c => ?_)
  · rw [if_pos c] at h
    refine jr_iconst dX6_take_16 kic_0 ?_
    exact jr_ireturn dX6_take_17 ⟨Or.inr (Or.inr (Or.inr ⟨rfl, Or.inl rfl⟩)), _, _, rfl, h⟩
  · rw [if_neg c] at h
    refine jr_aload_n dX6_take_7 rfl rfl ?_
    refine jv_geti rfl ff_X6_25 ks_17 dX6_take_8 ?_
    refine jr_bipush dX6_take_11 kbp_120 ?_
    refine jr_icmp_lt dX6_take_13 (tgt := 18) (by decide) (fun c => ?_) (fun c => ?_)
    · rw [if_pos c] at h
      refine jr_aload_n dX6_take_18 rfl rfl ?_
      refine jr_geta ff_X6_9 ks_17 rr_17_0 dX6_take_19 ?_
      refine jr_aload_n dX6_take_22 rfl rfl ?_
      refine jv_geti rfl ff_X6_25 ks_17 dX6_take_23 ?_
      refine jr_iload_n dX6_take_26 rfl rfl ?_
      obtain ⟨g1, h⟩ := h
      refine jr_iastore rfl ks_18 dX6_take_27 g1 ?_
      refine jr_aload_n dX6_take_28 rfl rfl ?_
      refine jr_dup dX6_take_29 rfl ?_
      refine jv_geti (u2n (by decide)) ff_X6_25 ks_17 dX6_take_30 ?_
      refine jr_iconst dX6_take_33 kic_1 ?_
      refine jr_iadd dX6_take_34 ?_
      refine jr_puti ff_X6_25 ks_17 dX6_take_35 ?_
      refine jr_iconst dX6_take_38 kic_1 ?_
      exact jr_ireturn dX6_take_39 ⟨Or.inr (Or.inr (Or.inr ⟨rfl, Or.inr rfl⟩)), _, _, rfl, h⟩
    · rw [if_neg c] at h
      refine jr_iconst dX6_take_16 kic_0 ?_
      exact jr_ireturn dX6_take_17 ⟨Or.inr (Or.inr (Or.inr ⟨rfl, Or.inl rfl⟩)), _, _, rfl, h⟩
def wX6_read_88 (G : jG) (l : Launch) (d : Nat) (Q : Option Value → jS → jL → Prop) (I : jS) (L : jL) : Prop := Q (some (.int (I 17 7))) (u2 I 17 5 (0 : Int32)) L
set_option maxRecDepth 100000 in
set_option maxHeartbeats 4000000 in
theorem wX6_read_88_ok {G : jG} {l : Launch} {d : Nat} {Q : Option Value → jS → jL → Prop} : ∀ (I : jS) (L : jL), wX6_read_88 G l d Q I L → J G l yX6_read cX6_read 3 (d + 1) 0 0 88 [some (.ref 17), none, none] [] (jKS, I, L, jR0) (jQm (some .int) Q) := by
  intro I L h
  rw [wX6_read_88] at h
  refine jr_aload_n dX6_read_88 rfl rfl ?_
  refine jr_iconst dX6_read_89 kic_0 ?_
  refine jr_puti ff_X6_25 ks_17 dX6_read_90 ?_
  refine jr_aload_n dX6_read_93 rfl rfl ?_
  refine jv_geti (u2i (by decide)) ff_X6_32 ks_17 dX6_read_94 ?_
  exact jr_ireturn dX6_read_97 ⟨Or.inr (Or.inl ⟨rfl, _, rfl⟩), _, _, rfl, h⟩
def wX6_read_55 (G : jG) (l : Launch) (d : Nat) (Q : Option Value → jS → jL → Prop) (I : jS) (L : jL) : Prop := if 0 ≤ (I 17 7) then (wX6_read_88 G l d Q I L) else (jcok (0 : Int32) (0 : Int32) (121 : Int32) 121 121 ∧ (wX6_read_88 G l d Q (u2 (jcpy I 19 20 (0 : Int32) (0 : Int32) (121 : Int32)) 17 9 ((jcpy I 19 20 (0 : Int32) (0 : Int32) (121 : Int32)) 17 8)) L))
set_option maxRecDepth 100000 in
set_option maxHeartbeats 4000000 in
theorem wX6_read_55_ok {G : jG} {l : Launch} {d : Nat} {Q : Option Value → jS → jL → Prop} : ∀ (I : jS) (L : jL), wX6_read_55 G l d Q I L → J G l yX6_read cX6_read 3 (d + 1) 0 0 55 [some (.ref 17), none, none] [] (jKS, I, L, jR0) (jQm (some .int) Q) := by
  intro I L h
  rw [wX6_read_55] at h
  refine jr_aload_n dX6_read_55 rfl rfl ?_
  refine jv_geti rfl ff_X6_32 ks_17 dX6_read_56 ?_
  refine jr_if_ge dX6_read_59 (tgt := 88) (by decide) (fun c => ?_) (fun c => ?_)
  · rw [if_pos c] at h
    exact J.sub (wX6_read_88_ok  _ _ h) (jsub_some (jsub_none (jsub_none jsub_nil)))
  · rw [if_neg c] at h
    refine jr_aload_n dX6_read_62 rfl rfl ?_
    refine jr_geta ff_X6_13 ks_17 rr_17_1 dX6_read_63 ?_
    refine jr_iconst dX6_read_66 kic_0 ?_
    refine jr_aload_n dX6_read_67 rfl rfl ?_
    refine jr_geta ff_X6_16 ks_17 rr_17_2 dX6_read_68 ?_
    refine jr_iconst dX6_read_71 kic_0 ?_
    refine jr_aload_n dX6_read_72 rfl rfl ?_
    refine jr_geta ff_X6_16 ks_17 rr_17_2 dX6_read_73 ?_
    refine jr_alen_i ks_20 kln_121 dX6_read_76 ?_
    obtain ⟨g1, h⟩ := h
    refine jr_copyi cw_X6_48 ks_19 ks_20 g1 (by decide) (Nat.le_of_ble_eq_true rfl) dX6_read_77 ?_
    refine jr_aload_n dX6_read_80 rfl rfl ?_
    refine jr_aload_n dX6_read_81 rfl rfl ?_
    refine jv_geti rfl ff_X6_35 ks_17 dX6_read_82 ?_
    refine jr_puti ff_X6_38 ks_17 dX6_read_85 ?_
    exact J.sub (wX6_read_88_ok  _ _ h) (jsub_some (jsub_none (jsub_none jsub_nil)))
def wX6_read_40 (G : jG) (l : Launch) (d : Nat) (Q : Option Value → jS → jL → Prop) (I : jS) (L : jL) : Prop := if (I 17 5) ≤ (I 17 6) then (wX6_read_55 G l d Q I L) else (cV G l mX6_spoil d [.ref 17] I L (fun I1 L1 => (wX6_read_55 G l d Q I1 L1)))
set_option maxRecDepth 100000 in
set_option maxHeartbeats 4000000 in
theorem wX6_read_40_ok {G : jG} {l : Launch} {d : Nat} {Q : Option Value → jS → jL → Prop} : ∀ (I : jS) (L : jL), wX6_read_40 G l d Q I L → J G l yX6_read cX6_read 3 (d + 1) 0 0 40 [some (.ref 17), none, none] [] (jKS, I, L, jR0) (jQm (some .int) Q) := by
  intro I L h
  rw [wX6_read_40] at h
  refine jr_aload_n dX6_read_40 rfl rfl ?_
  refine jv_geti rfl ff_X6_29 ks_17 dX6_read_41 ?_
  refine jr_aload_n dX6_read_44 rfl rfl ?_
  refine jv_geti rfl ff_X6_25 ks_17 dX6_read_45 ?_
  refine jr_icmp_ge dX6_read_48 (tgt := 55) (by decide) (fun c => ?_) (fun c => ?_)
  · rw [if_pos c] at h
    exact J.sub (wX6_read_55_ok  _ _ h) (jsub_some (jsub_none (jsub_none jsub_nil)))
  · rw [if_neg c] at h
    refine jr_aload_n dX6_read_51 rfl rfl ?_
    refine jr_callV (mc2 := 0) (mc := 0) (ms2 := 0) (ms := 0) vm_X6_45 (av := []) (st := []) rfl rfl ks_17 (by decide) rfl (Nat.le_of_ble_eq_true rfl) dX6_read_52 (cV_use (M := (yX6_spoil, cX6_spoil, 1, none)) h ?_)
    intro I1 L1 h
    exact J.sub (wX6_read_55_ok  _ _ h) (jsub_some (jsub_none (jsub_none jsub_nil)))
def wX6_read_19 (G : jG) (l : Launch) (d : Nat) (Q : Option Value → jS → jL → Prop) : Nat → Int32 → Int32 → jS → jL → Prop
  | 0, _, _, _, _ => False
  | n19 + 1, x1, x2, I, L => if (120 : Int32) < x2 then (wX6_read_40 G l d Q I L) else (if x1 = 0 then (wX6_read_40 G l d Q I L) else (cI G l mX6_readLine d [.ref 17] I L (fun r1 I1 L1 => ((wX6_read_19 G l d Q n19) r1 (x2 + (1 : Int32)) I1 L1))))
set_option maxRecDepth 100000 in
set_option maxHeartbeats 4000000 in
theorem wX6_read_19_ok {G : jG} {l : Launch} {d : Nat} {Q : Option Value → jS → jL → Prop} : ∀ (n : Nat) (x1 : Int32) (x2 : Int32) (I : jS) (L : jL), wX6_read_19 G l d Q n x1 x2 I L → J G l yX6_read cX6_read 3 (d + 1) 0 0 19 [some (.ref 17), some (.int x1), some (.int x2)] [] (jKS, I, L, jR0) (jQm (some .int) Q) := by
  intro n
  induction n with
  | zero => intro x1 x2 I L h; exact h.elim
  | succ n ih =>
    intro x1 x2 I L h
    rw [wX6_read_19] at h
    refine jr_iload_n dX6_read_19 rfl rfl ?_
    refine jr_bipush dX6_read_20 kbp_120 ?_
    refine jr_icmp_gt dX6_read_22 (tgt := 40) (by decide) (fun c => ?_) (fun c => ?_)
    · rw [if_pos c] at h
      exact J.sub (wX6_read_40_ok  _ _ h) (jsub_some (jsub_none (jsub_none jsub_nil)))
    · rw [if_neg c] at h
      refine jr_iload_n dX6_read_25 rfl rfl ?_
      refine jr_if_eq dX6_read_26 (tgt := 40) (by decide) (fun c => ?_) (fun c => ?_)
      · rw [if_pos c] at h
        exact J.sub (wX6_read_40_ok  _ _ h) (jsub_some (jsub_none (jsub_none jsub_nil)))
      · rw [if_neg c] at h
        refine jr_aload_n dX6_read_29 rfl rfl ?_
        refine jr_callV (mc2 := 0) (mc := 0) (ms2 := 0) (ms := 0) vm_X6_41 (av := []) (st := []) rfl rfl ks_17 (by decide) rfl (Nat.le_of_ble_eq_true rfl) dX6_read_30 (cI_use (M := (yX6_readLine, cX6_readLine, 3, some .boolean)) h ?_)
        intro r1 I1 L1 h
        refine jr_istore_n dX6_read_33 rfl (by decide) rfl ?_
        refine jr_iinc dX6_read_34 rfl (by rw [kic_1]) (by decide) rfl ?_
        refine jr_goto dX6_read_37 (tgt := 19) (by decide) ?_
        exact J.sub (ih _ _ _ _ h) (jsub_some (jsub_some (jsub_some jsub_nil)))
def wX6_read (G : jG) (l : Launch) (d : Nat) (I : jS) (L : jL) (Q : Option Value → jS → jL → Prop) : Prop := ∃ e19 : Nat, wX6_read_19 G l d Q e19 (1 : Int32) (0 : Int32) (u2 (u2 (u2 I 17 6 (0 : Int32)) 17 7 (-1 : Int32)) 17 8 (0 : Int32)) L
set_option maxRecDepth 100000 in
set_option maxHeartbeats 4000000 in
theorem wX6_read_ok {G : jG} {l : Launch} {d : Nat} {Q : Option Value → jS → jL → Prop} {I : jS} {L : jL} (h : wX6_read G l d I L Q) : cM G l mX6_read (d + 1) [.ref 17] I L Q := by
  rw [wX6_read] at h
  show jCall G l yX6_read cX6_read 3 (some .int) (d + 1) 0 0 _ (jKS, I, L, jR0) _
  refine jCall_of (n0 := 2) (ls := [some (.ref 17), none, none]) (by decide +kernel) rfl (Nat.le_of_ble_eq_true rfl) (jQm_of ?_)
  refine jr_aload_n dX6_read_0 rfl rfl ?_
  refine jr_iconst dX6_read_1 kic_0 ?_
  refine jr_puti ff_X6_29 ks_17 dX6_read_2 ?_
  refine jr_aload_n dX6_read_5 rfl rfl ?_
  refine jr_iconst dX6_read_6 kic_m1 ?_
  refine jr_puti ff_X6_32 ks_17 dX6_read_7 ?_
  refine jr_aload_n dX6_read_10 rfl rfl ?_
  refine jr_iconst dX6_read_11 kic_0 ?_
  refine jr_puti ff_X6_35 ks_17 dX6_read_12 ?_
  refine jr_iconst dX6_read_15 kic_1 ?_
  refine jr_istore_n dX6_read_16 rfl (by decide) rfl ?_
  refine jr_iconst dX6_read_17 kic_0 ?_
  refine jr_istore_n dX6_read_18 rfl (by decide) rfl ?_
  obtain ⟨e19, h⟩ := h
  exact J.sub (wX6_read_19_ok  e19 _ _ _ _ h) (jsub_some (jsub_some (jsub_some jsub_nil)))
def wX6_readLine_87 (G : jG) (l : Launch) (d : Nat) (Q : Option Value → jS → jL → Prop) (I : jS) (L : jL) : Prop := cI G l mX6_next d [.ref 17] I L (fun r1 I1 L1 => (if r1 = (59 : Int32) then (Q (some (.int (1 : Int32))) (u2 I1 17 6 ((I1 17 6) + (1 : Int32))) L1) else (Q (some (.int (0 : Int32))) I1 L1)))
set_option maxRecDepth 100000 in
set_option maxHeartbeats 4000000 in
theorem wX6_readLine_87_ok {G : jG} {l : Launch} {d : Nat} {Q : Option Value → jS → jL → Prop} : ∀ (I : jS) (L : jL), wX6_readLine_87 G l d Q I L → J G l yX6_readLine cX6_readLine 3 (d + 1) 0 0 87 [some (.ref 17), none, none] [] (jKS, I, L, jR0) (jQm (some .boolean) Q) := by
  intro I L h
  rw [wX6_readLine_87] at h
  refine jr_aload_n dX6_readLine_87 rfl rfl ?_
  refine jr_callV (mc2 := 0) (mc := 0) (ms2 := 0) (ms := 0) vm_X6_58 (av := []) (st := []) rfl rfl ks_17 (by decide) rfl (Nat.le_of_ble_eq_true rfl) dX6_readLine_88 (cI_use (M := (yX6_next, cX6_next, 1, some .int)) h ?_)
  intro r1 I1 L1 h
  refine jr_bipush dX6_readLine_91 kbp_59 ?_
  refine jr_icmp_eq dX6_readLine_93 (tgt := 98) (by decide) (fun c => ?_) (fun c => ?_)
  · rw [if_pos c] at h
    refine jr_aload_n dX6_readLine_98 rfl rfl ?_
    refine jr_dup dX6_readLine_99 rfl ?_
    refine jv_geti rfl ff_X6_29 ks_17 dX6_readLine_100 ?_
    refine jr_iconst dX6_readLine_103 kic_1 ?_
    refine jr_iadd dX6_readLine_104 ?_
    refine jr_puti ff_X6_29 ks_17 dX6_readLine_105 ?_
    refine jr_iconst dX6_readLine_108 kic_1 ?_
    exact jr_ireturn dX6_readLine_109 ⟨Or.inr (Or.inr (Or.inr ⟨rfl, Or.inr rfl⟩)), _, _, rfl, h⟩
  · rw [if_neg c] at h
    refine jr_iconst dX6_readLine_96 kic_0 ?_
    exact jr_ireturn dX6_readLine_97 ⟨Or.inr (Or.inr (Or.inr ⟨rfl, Or.inl rfl⟩)), _, _, rfl, h⟩
def wX6_readLine_53 (G : jG) (l : Launch) (d : Nat) (Q : Option Value → jS → jL → Prop) (x1 : Int32) (x2 : Int32) (I : jS) (L : jL) : Prop := cV G l mX6_emit d [.ref 17, .int (12000 : Int32)] I L (fun I1 L1 => (if x1 = 0 then (wX6_readLine_87 G l d Q I1 L1) else (if (121 : Int32) ≤ x2 then (wX6_readLine_87 G l d Q I1 L1) else (vp_in x2 121 ∧ (wX6_readLine_87 G l d Q (u2 I1 19 x2.toNatClampNeg ((13000 : Int32) + (I1 17 8))) L1)))))
set_option maxRecDepth 100000 in
set_option maxHeartbeats 4000000 in
theorem wX6_readLine_53_ok {G : jG} {l : Launch} {d : Nat} {Q : Option Value → jS → jL → Prop} : ∀ (x1 : Int32) (x2 : Int32) (I : jS) (L : jL), wX6_readLine_53 G l d Q x1 x2 I L → J G l yX6_readLine cX6_readLine 3 (d + 1) 0 0 53 [some (.ref 17), some (.int x1), some (.int x2)] [] (jKS, I, L, jR0) (jQm (some .boolean) Q) := by
  intro x1 x2 I L h
  rw [wX6_readLine_53] at h
  refine jr_aload_n dX6_readLine_53 rfl rfl ?_
  refine jr_sipush dX6_readLine_54 ksp_12000 ?_
  refine jr_callV (mc2 := 0) (mc := 0) (ms2 := 0) (ms := 0) vm_X6_62 (av := [.int (12000 : Int32)]) (st := []) rfl rfl ks_17 (by decide) rfl (Nat.le_of_ble_eq_true rfl) dX6_readLine_57 (cV_use (M := (yX6_emit, cX6_emit, 2, none)) h ?_)
  intro I1 L1 h
  refine jr_iload_n dX6_readLine_60 rfl rfl ?_
  refine jr_if_eq dX6_readLine_61 (tgt := 87) (by decide) (fun c => ?_) (fun c => ?_)
  · rw [if_pos c] at h
    exact J.sub (wX6_readLine_87_ok  _ _ h) (jsub_some (jsub_none (jsub_none jsub_nil)))
  · rw [if_neg c] at h
    refine jr_iload_n dX6_readLine_64 rfl rfl ?_
    refine jr_aload_n dX6_readLine_65 rfl rfl ?_
    refine jr_geta ff_X6_13 ks_17 rr_17_1 dX6_readLine_66 ?_
    refine jr_alen_i ks_19 kln_121 dX6_readLine_69 ?_
    refine jr_icmp_ge dX6_readLine_70 (tgt := 87) (by decide) (fun c => ?_) (fun c => ?_)
    · rw [if_pos c] at h
      exact J.sub (wX6_readLine_87_ok  _ _ h) (jsub_some (jsub_none (jsub_none jsub_nil)))
    · rw [if_neg c] at h
      refine jr_aload_n dX6_readLine_73 rfl rfl ?_
      refine jr_geta ff_X6_13 ks_17 rr_17_1 dX6_readLine_74 ?_
      refine jr_iload_n dX6_readLine_77 rfl rfl ?_
      refine jr_sipush dX6_readLine_78 ksp_13000 ?_
      refine jr_aload_n dX6_readLine_81 rfl rfl ?_
      refine jv_geti rfl ff_X6_35 ks_17 dX6_readLine_82 ?_
      refine jr_iadd dX6_readLine_85 ?_
      obtain ⟨g2, h⟩ := h
      refine jr_iastore rfl ks_19 dX6_readLine_86 g2 ?_
      exact J.sub (wX6_readLine_87_ok  _ _ h) (jsub_some (jsub_none (jsub_none jsub_nil)))
def wX6_readLine_20 (G : jG) (l : Launch) (d : Nat) (Q : Option Value → jS → jL → Prop) (t0 : Int32) (I : jS) (L : jL) : Prop := if t0 = 0 then (wX6_readLine_53 G l d Q t0 (I 17 8) I L) else (cV G l mX6_emit d [.ref 17, .int (13000 : Int32)] (u2 I 17 6 ((I 17 6) + (1 : Int32))) L (fun I1 L1 => (cV G l mX6_readLevel d [.ref 17, .int (0 : Int32), .int (0 : Int32)] I1 L1 (fun I2 L2 => (wX6_readLine_53 G l d Q t0 (I 17 8) I2 L2)))))
set_option maxRecDepth 100000 in
set_option maxHeartbeats 4000000 in
theorem wX6_readLine_20_ok {G : jG} {l : Launch} {d : Nat} {Q : Option Value → jS → jL → Prop} : ∀ (t0 : Int32) (I : jS) (L : jL), wX6_readLine_20 G l d Q t0 I L → J G l yX6_readLine cX6_readLine 3 (d + 1) 0 0 20 [some (.ref 17), none, none] [.int t0] (jKS, I, L, jR0) (jQm (some .boolean) Q) := by
  intro t0 I L h
  rw [wX6_readLine_20] at h
  refine jr_istore_n dX6_readLine_20 rfl (by decide) rfl ?_
  refine jr_aload_n dX6_readLine_21 rfl rfl ?_
  refine jv_geti rfl ff_X6_35 ks_17 dX6_readLine_22 ?_
  refine jr_istore_n dX6_readLine_25 rfl (by decide) rfl ?_
  refine jr_iload_n dX6_readLine_26 rfl rfl ?_
  refine jr_if_eq dX6_readLine_27 (tgt := 53) (by decide) (fun c => ?_) (fun c => ?_)
  · rw [if_pos c] at h
    exact J.sub (wX6_readLine_53_ok  _ _ _ _ h) (jsub_some (jsub_some (jsub_some jsub_nil)))
  · rw [if_neg c] at h
    refine jr_aload_n dX6_readLine_30 rfl rfl ?_
    refine jr_dup dX6_readLine_31 rfl ?_
    refine jv_geti rfl ff_X6_29 ks_17 dX6_readLine_32 ?_
    refine jr_iconst dX6_readLine_35 kic_1 ?_
    refine jr_iadd dX6_readLine_36 ?_
    refine jr_puti ff_X6_29 ks_17 dX6_readLine_37 ?_
    refine jr_aload_n dX6_readLine_40 rfl rfl ?_
    refine jr_sipush dX6_readLine_41 ksp_13000 ?_
    refine jr_callV (mc2 := 0) (mc := 0) (ms2 := 0) (ms := 0) vm_X6_62 (av := [.int (13000 : Int32)]) (st := []) rfl rfl ks_17 (by decide) rfl (Nat.le_of_ble_eq_true rfl) dX6_readLine_44 (cV_use (M := (yX6_emit, cX6_emit, 2, none)) h ?_)
    intro I1 L1 h
    refine jr_aload_n dX6_readLine_47 rfl rfl ?_
    refine jr_iconst dX6_readLine_48 kic_0 ?_
    refine jr_iconst dX6_readLine_49 kic_0 ?_
    refine jr_callV (mc2 := 0) (mc := 0) (ms2 := 0) (ms := 0) vm_X6_54 (av := [.int (0 : Int32), .int (0 : Int32)]) (st := []) rfl rfl ks_17 (by decide) rfl (Nat.le_of_ble_eq_true rfl) dX6_readLine_50 (cV_use (M := (yX6_readLevel, cX6_readLevel, 6, none)) h ?_)
    intro I2 L2 h
    exact J.sub (wX6_readLine_53_ok  _ _ _ _ h) (jsub_some (jsub_some (jsub_some jsub_nil)))
def wX6_readLine (G : jG) (l : Launch) (d : Nat) (I : jS) (L : jL) (Q : Option Value → jS → jL → Prop) : Prop := cV G l mX6_readLevel d [.ref 17, .int (0 : Int32), .int (0 : Int32)] I L (fun I1 L1 => (cI G l mX6_next d [.ref 17] I1 L1 (fun r2 I2 L2 => (if r2 = (63 : Int32) then (wX6_readLine_20 G l d Q (1 : Int32) I2 L2) else (wX6_readLine_20 G l d Q (0 : Int32) I2 L2)))))
set_option maxRecDepth 100000 in
set_option maxHeartbeats 4000000 in
theorem wX6_readLine_ok {G : jG} {l : Launch} {d : Nat} {Q : Option Value → jS → jL → Prop} {I : jS} {L : jL} (h : wX6_readLine G l d I L Q) : cM G l mX6_readLine (d + 1) [.ref 17] I L Q := by
  rw [wX6_readLine] at h
  show jCall G l yX6_readLine cX6_readLine 3 (some .boolean) (d + 1) 0 0 _ (jKS, I, L, jR0) _
  refine jCall_of (n0 := 2) (ls := [some (.ref 17), none, none]) (by decide +kernel) rfl (Nat.le_of_ble_eq_true rfl) (jQm_of ?_)
  refine jr_aload_n dX6_readLine_0 rfl rfl ?_
  refine jr_iconst dX6_readLine_1 kic_0 ?_
  refine jr_iconst dX6_readLine_2 kic_0 ?_
  refine jr_callV (mc2 := 0) (mc := 0) (ms2 := 0) (ms := 0) vm_X6_54 (av := [.int (0 : Int32), .int (0 : Int32)]) (st := []) rfl rfl ks_17 (by decide) rfl (Nat.le_of_ble_eq_true rfl) dX6_readLine_3 (cV_use (M := (yX6_readLevel, cX6_readLevel, 6, none)) h ?_)
  intro I1 L1 h
  refine jr_aload_n dX6_readLine_6 rfl rfl ?_
  refine jr_callV (mc2 := 0) (mc := 0) (ms2 := 0) (ms := 0) vm_X6_58 (av := []) (st := []) rfl rfl ks_17 (by decide) rfl (Nat.le_of_ble_eq_true rfl) dX6_readLine_7 (cI_use (M := (yX6_next, cX6_next, 1, some .int)) h ?_)
  intro r2 I2 L2 h
  refine jr_bipush dX6_readLine_10 kbp_63 ?_
  refine jr_icmp_ne dX6_readLine_12 (tgt := 19) (by decide) (fun c => ?_) (fun c => ?_)
  · rw [if_neg c] at h
    refine jr_iconst dX6_readLine_19 kic_0 ?_
    exact J.sub (wX6_readLine_20_ok  _ _ _ h) (jsub_some (jsub_none (jsub_none jsub_nil)))
  · rw [if_pos c] at h
    refine jr_iconst dX6_readLine_15 kic_1 ?_
    refine jr_goto dX6_readLine_16 (tgt := 20) (by decide) ?_
    exact J.sub (wX6_readLine_20_ok  _ _ _ h) (jsub_some (jsub_none (jsub_none jsub_nil)))
def wX6_readLevel_39 (G : jG) (l : Launch) (d : Nat) (Q : Option Value → jS → jL → Prop) : Nat → Int32 → Int32 → Int32 → Int32 → jS → jL → Prop
  | 0, _, _, _, _, _, _ => False
  | n39 + 1, x1, x2, x3, x4, I, L => if (120 : Int32) ≤ x4 then (Q none I L) else (if x3 = 0 then (Q none I L) else (cI G l mX6_next d [.ref 17] I L (fun r1 I1 L1 => (cV G l mX6_readLevel d [.ref 17, .int (x1 + (1 : Int32)), .int x2] (u2 I1 17 6 ((I1 17 6) + (1 : Int32))) L1 (fun I2 L2 => (cV G l mX6_emit d [.ref 17, .int ((11000 : Int32) + r1)] I2 L2 (fun I3 L3 => (if x1 = (2 : Int32) then ((wX6_readLevel_39 G l d Q n39) x1 x2 (0 : Int32) (x4 + (1 : Int32)) I3 L3) else (cI G l mX6_next d [.ref 17] I3 L3 (fun r4 I4 L4 => (cI G l mX6_levelOf d [.int r4] I4 L4 (fun r5 I5 L5 => (if r5 = x1 then ((wX6_readLevel_39 G l d Q n39) x1 x2 (1 : Int32) (x4 + (1 : Int32)) I5 L5) else ((wX6_readLevel_39 G l d Q n39) x1 x2 (0 : Int32) (x4 + (1 : Int32)) I5 L5))))))))))))))
set_option maxRecDepth 100000 in
set_option maxHeartbeats 4000000 in
theorem wX6_readLevel_39_ok {G : jG} {l : Launch} {d : Nat} {Q : Option Value → jS → jL → Prop} : ∀ (n : Nat) (x1 : Int32) (x2 : Int32) (x3 : Int32) (x4 : Int32) (I : jS) (L : jL), wX6_readLevel_39 G l d Q n x1 x2 x3 x4 I L → J G l yX6_readLevel cX6_readLevel 6 (d + 1) 0 0 39 [some (.ref 17), some (.int x1), some (.int x2), some (.int x3), some (.int x4), none] [] (jKS, I, L, jR0) (jQm (none) Q) := by
  intro n
  induction n with
  | zero => intro x1 x2 x3 x4 I L h; exact h.elim
  | succ n ih =>
    intro x1 x2 x3 x4 I L h
    rw [wX6_readLevel_39] at h
    refine jr_iload dX6_readLevel_39 rfl ?_
    refine jr_bipush dX6_readLevel_41 kbp_120 ?_
    refine jr_icmp_ge dX6_readLevel_43 (tgt := 112) (by decide) (fun c => ?_) (fun c => ?_)
    · rw [if_pos c] at h
      exact jr_return dX6_readLevel_112 ⟨Or.inl ⟨rfl, rfl⟩, _, _, rfl, h⟩
    · rw [if_neg c] at h
      refine jr_iload_n dX6_readLevel_46 rfl rfl ?_
      refine jr_if_eq dX6_readLevel_47 (tgt := 112) (by decide) (fun c => ?_) (fun c => ?_)
      · rw [if_pos c] at h
        exact jr_return dX6_readLevel_112 ⟨Or.inl ⟨rfl, rfl⟩, _, _, rfl, h⟩
      · rw [if_neg c] at h
        refine jr_aload_n dX6_readLevel_50 rfl rfl ?_
        refine jr_callV (mc2 := 0) (mc := 0) (ms2 := 0) (ms := 0) vm_X6_58 (av := []) (st := []) rfl rfl ks_17 (by decide) rfl (Nat.le_of_ble_eq_true rfl) dX6_readLevel_51 (cI_use (M := (yX6_next, cX6_next, 1, some .int)) h ?_)
        intro r1 I1 L1 h
        refine jr_istore dX6_readLevel_54 (by decide) rfl ?_
        refine jr_aload_n dX6_readLevel_56 rfl rfl ?_
        refine jr_dup dX6_readLevel_57 rfl ?_
        refine jv_geti rfl ff_X6_29 ks_17 dX6_readLevel_58 ?_
        refine jr_iconst dX6_readLevel_61 kic_1 ?_
        refine jr_iadd dX6_readLevel_62 ?_
        refine jr_puti ff_X6_29 ks_17 dX6_readLevel_63 ?_
        refine jr_aload_n dX6_readLevel_66 rfl rfl ?_
        refine jr_iload_n dX6_readLevel_67 rfl rfl ?_
        refine jr_iconst dX6_readLevel_68 kic_1 ?_
        refine jr_iadd dX6_readLevel_69 ?_
        refine jr_iload_n dX6_readLevel_70 rfl rfl ?_
        refine jr_callV (mc2 := 0) (mc := 0) (ms2 := 0) (ms := 0) vm_X6_54 (av := [.int (x1 + (1 : Int32)), .int x2]) (st := []) rfl rfl ks_17 (by decide) rfl (Nat.le_of_ble_eq_true rfl) dX6_readLevel_71 (cV_use (M := (yX6_readLevel, cX6_readLevel, 6, none)) h ?_)
        intro I2 L2 h
        refine jr_aload_n dX6_readLevel_74 rfl rfl ?_
        refine jr_sipush dX6_readLevel_75 ksp_11000 ?_
        refine jr_iload dX6_readLevel_78 rfl ?_
        refine jr_iadd dX6_readLevel_80 ?_
        refine jr_callV (mc2 := 0) (mc := 0) (ms2 := 0) (ms := 0) vm_X6_62 (av := [.int ((11000 : Int32) + r1)]) (st := []) rfl rfl ks_17 (by decide) rfl (Nat.le_of_ble_eq_true rfl) dX6_readLevel_81 (cV_use (M := (yX6_emit, cX6_emit, 2, none)) h ?_)
        intro I3 L3 h
        refine jr_iload_n dX6_readLevel_84 rfl rfl ?_
        refine jr_iconst dX6_readLevel_85 kic_2 ?_
        refine jr_icmp_eq dX6_readLevel_86 (tgt := 104) (by decide) (fun c => ?_) (fun c => ?_)
        · rw [if_pos c] at h
          refine jr_iconst dX6_readLevel_104 kic_0 ?_
          refine jr_istore_n dX6_readLevel_105 rfl (by decide) rfl ?_
          refine jr_iinc dX6_readLevel_106 rfl (by rw [kic_1]) (by decide) rfl ?_
          refine jr_goto dX6_readLevel_109 (tgt := 39) (by decide) ?_
          exact J.sub (ih _ _ _ _ _ _ h) (jsub_some (jsub_some (jsub_some (jsub_some (jsub_some (jsub_none jsub_nil))))))
        · rw [if_neg c] at h
          refine jr_aload_n dX6_readLevel_89 rfl rfl ?_
          refine jr_callV (mc2 := 0) (mc := 0) (ms2 := 0) (ms := 0) vm_X6_58 (av := []) (st := []) rfl rfl ks_17 (by decide) rfl (Nat.le_of_ble_eq_true rfl) dX6_readLevel_90 (cI_use (M := (yX6_next, cX6_next, 1, some .int)) h ?_)
          intro r4 I4 L4 h
          refine jr_callS (mc2 := 0) (mc := 0) (ms2 := 0) (ms := 0) vm_X6_69 (av := [.int r4]) (st := []) rfl rfl (Nat.le_of_ble_eq_true rfl) dX6_readLevel_93 (cI_use (M := (yX6_levelOf, cX6_levelOf, 1, some .int)) h ?_)
          intro r5 I5 L5 h
          refine jr_iload_n dX6_readLevel_96 rfl rfl ?_
          refine jr_icmp_ne dX6_readLevel_97 (tgt := 104) (by decide) (fun c => ?_) (fun c => ?_)
          · rw [if_neg c] at h
            refine jr_iconst dX6_readLevel_104 kic_0 ?_
            refine jr_istore_n dX6_readLevel_105 rfl (by decide) rfl ?_
            refine jr_iinc dX6_readLevel_106 rfl (by rw [kic_1]) (by decide) rfl ?_
            refine jr_goto dX6_readLevel_109 (tgt := 39) (by decide) ?_
            exact J.sub (ih _ _ _ _ _ _ h) (jsub_some (jsub_some (jsub_some (jsub_some (jsub_some (jsub_none jsub_nil))))))
          · rw [if_pos c] at h
            refine jr_iconst dX6_readLevel_100 kic_1 ?_
            refine jr_goto dX6_readLevel_101 (tgt := 105) (by decide) ?_
            refine jr_istore_n dX6_readLevel_105 rfl (by decide) rfl ?_
            refine jr_iinc dX6_readLevel_106 rfl (by rw [kic_1]) (by decide) rfl ?_
            refine jr_goto dX6_readLevel_109 (tgt := 39) (by decide) ?_
            exact J.sub (ih _ _ _ _ _ _ h) (jsub_some (jsub_some (jsub_some (jsub_some (jsub_some (jsub_none jsub_nil))))))
def wX6_readLevel (G : jG) (l : Launch) (d : Nat) (x1 : Int32) (x2 : Int32) (I : jS) (L : jL) (Q : Option Value → jS → jL → Prop) : Prop := if x1 < (5 : Int32) then (cV G l mX6_readLevel d [.ref 17, .int (x1 + (1 : Int32)), .int x2] I L (fun I1 L1 => (cI G l mX6_next d [.ref 17] I1 L1 (fun r2 I2 L2 => (cI G l mX6_levelOf d [.int r2] I2 L2 (fun r3 I3 L3 => (if r3 = x1 then (∃ e39 : Nat, wX6_readLevel_39 G l d Q e39 x1 x2 (1 : Int32) (0 : Int32) I3 L3) else (∃ e39 : Nat, wX6_readLevel_39 G l d Q e39 x1 x2 (0 : Int32) (0 : Int32) I3 L3)))))))) else (cV G l mX6_readOperand d [.ref 17, .int x2] I L (fun I4 L4 => (Q none I4 L4)))
set_option maxRecDepth 100000 in
set_option maxHeartbeats 4000000 in
theorem wX6_readLevel_ok {G : jG} {l : Launch} {d : Nat} {Q : Option Value → jS → jL → Prop} {x1 : Int32} {x2 : Int32} {I : jS} {L : jL} (h : wX6_readLevel G l d x1 x2 I L Q) : cM G l mX6_readLevel (d + 1) [.ref 17, .int x1, .int x2] I L Q := by
  rw [wX6_readLevel] at h
  show jCall G l yX6_readLevel cX6_readLevel 6 (none) (d + 1) 0 0 _ (jKS, I, L, jR0) _
  refine jCall_of (n0 := 3) (ls := [some (.ref 17), some (.int x1), some (.int x2), none, none, none]) (by decide +kernel) rfl (Nat.le_of_ble_eq_true rfl) (jQm_of ?_)
  refine jr_iload_n dX6_readLevel_0 rfl rfl ?_
  refine jr_iconst dX6_readLevel_1 kic_5 ?_
  refine jr_icmp_lt dX6_readLevel_2 (tgt := 11) (by decide) (fun c => ?_) (fun c => ?_)
  · rw [if_pos c] at h
    refine jr_aload_n dX6_readLevel_11 rfl rfl ?_
    refine jr_iload_n dX6_readLevel_12 rfl rfl ?_
    refine jr_iconst dX6_readLevel_13 kic_1 ?_
    refine jr_iadd dX6_readLevel_14 ?_
    refine jr_iload_n dX6_readLevel_15 rfl rfl ?_
    refine jr_callV (mc2 := 0) (mc := 0) (ms2 := 0) (ms := 0) vm_X6_54 (av := [.int (x1 + (1 : Int32)), .int x2]) (st := []) rfl rfl ks_17 (by decide) rfl (Nat.le_of_ble_eq_true rfl) dX6_readLevel_16 (cV_use (M := (yX6_readLevel, cX6_readLevel, 6, none)) h ?_)
    intro I1 L1 h
    refine jr_aload_n dX6_readLevel_19 rfl rfl ?_
    refine jr_callV (mc2 := 0) (mc := 0) (ms2 := 0) (ms := 0) vm_X6_58 (av := []) (st := []) rfl rfl ks_17 (by decide) rfl (Nat.le_of_ble_eq_true rfl) dX6_readLevel_20 (cI_use (M := (yX6_next, cX6_next, 1, some .int)) h ?_)
    intro r2 I2 L2 h
    refine jr_callS (mc2 := 0) (mc := 0) (ms2 := 0) (ms := 0) vm_X6_69 (av := [.int r2]) (st := []) rfl rfl (Nat.le_of_ble_eq_true rfl) dX6_readLevel_23 (cI_use (M := (yX6_levelOf, cX6_levelOf, 1, some .int)) h ?_)
    intro r3 I3 L3 h
    refine jr_iload_n dX6_readLevel_26 rfl rfl ?_
    refine jr_icmp_ne dX6_readLevel_27 (tgt := 34) (by decide) (fun c => ?_) (fun c => ?_)
    · rw [if_neg c] at h
      refine jr_iconst dX6_readLevel_34 kic_0 ?_
      refine jr_istore_n dX6_readLevel_35 rfl (by decide) rfl ?_
      refine jr_iconst dX6_readLevel_36 kic_0 ?_
      refine jr_istore dX6_readLevel_37 (by decide) rfl ?_
      obtain ⟨e39, h⟩ := h
      exact J.sub (wX6_readLevel_39_ok  e39 _ _ _ _ _ _ h) (jsub_some (jsub_some (jsub_some (jsub_some (jsub_some (jsub_none jsub_nil))))))
    · rw [if_pos c] at h
      refine jr_iconst dX6_readLevel_30 kic_1 ?_
      refine jr_goto dX6_readLevel_31 (tgt := 35) (by decide) ?_
      refine jr_istore_n dX6_readLevel_35 rfl (by decide) rfl ?_
      refine jr_iconst dX6_readLevel_36 kic_0 ?_
      refine jr_istore dX6_readLevel_37 (by decide) rfl ?_
      obtain ⟨e39, h⟩ := h
      exact J.sub (wX6_readLevel_39_ok  e39 _ _ _ _ _ _ h) (jsub_some (jsub_some (jsub_some (jsub_some (jsub_some (jsub_none jsub_nil))))))
  · rw [if_neg c] at h
    refine jr_aload_n dX6_readLevel_5 rfl rfl ?_
    refine jr_iload_n dX6_readLevel_6 rfl rfl ?_
    refine jr_callV (mc2 := 0) (mc := 0) (ms2 := 0) (ms := 0) vm_X6_66 (av := [.int x2]) (st := []) rfl rfl ks_17 (by decide) rfl (Nat.le_of_ble_eq_true rfl) dX6_readLevel_7 (cV_use (M := (yX6_readOperand, cX6_readOperand, 3, none)) h ?_)
    intro I4 L4 h
    exact jr_return dX6_readLevel_10 ⟨Or.inl ⟨rfl, rfl⟩, _, _, rfl, h⟩
def wX6_readOperand_163 (G : jG) (l : Launch) (d : Nat) (Q : Option Value → jS → jL → Prop) (t1 : Int32) (t2 : Int32) (I : jS) (L : jL) : Prop := cV G l mX6_emit d [.ref 17, .int (t1 + t2)] I L (fun I1 L1 => (Q none I1 L1))
set_option maxRecDepth 100000 in
set_option maxHeartbeats 4000000 in
theorem wX6_readOperand_163_ok {G : jG} {l : Launch} {d : Nat} {Q : Option Value → jS → jL → Prop} : ∀ (t1 : Int32) (t2 : Int32) (I : jS) (L : jL), wX6_readOperand_163 G l d Q t1 t2 I L → J G l yX6_readOperand cX6_readOperand 3 (d + 1) 0 0 163 [none, none, none] [.int t2, .int t1, .ref 17] (jKS, I, L, jR0) (jQm (none) Q) := by
  intro t1 t2 I L h
  rw [wX6_readOperand_163] at h
  refine jr_iadd dX6_readOperand_163 ?_
  refine jr_callV (mc2 := 0) (mc := 0) (ms2 := 0) (ms := 0) vm_X6_62 (av := [.int (t1 + t2)]) (st := []) rfl rfl ks_17 (by decide) rfl (Nat.le_of_ble_eq_true rfl) dX6_readOperand_164 (cV_use (M := (yX6_emit, cX6_emit, 2, none)) h ?_)
  intro I1 L1 h
  refine jr_goto dX6_readOperand_167 (tgt := 174) (by decide) ?_
  exact jr_return dX6_readOperand_174 ⟨Or.inl ⟨rfl, rfl⟩, _, _, rfl, h⟩
def wX6_readOperand_129 (G : jG) (l : Launch) (d : Nat) (Q : Option Value → jS → jL → Prop) (x1 : Int32) (x2 : Int32) (I : jS) (L : jL) : Prop := cV G l mX6_readOperand d [.ref 17, .int (x1 + (1 : Int32))] (u2 I 17 6 ((I 17 6) + (1 : Int32))) L (fun I1 L1 => (if x2 = (45 : Int32) then (wX6_readOperand_163 G l d Q (11000 : Int32) (126 : Int32) I1 L1) else (wX6_readOperand_163 G l d Q (11000 : Int32) (33 : Int32) I1 L1)))
set_option maxRecDepth 100000 in
set_option maxHeartbeats 4000000 in
theorem wX6_readOperand_129_ok {G : jG} {l : Launch} {d : Nat} {Q : Option Value → jS → jL → Prop} : ∀ (x1 : Int32) (x2 : Int32) (I : jS) (L : jL), wX6_readOperand_129 G l d Q x1 x2 I L → J G l yX6_readOperand cX6_readOperand 3 (d + 1) 0 0 129 [some (.ref 17), some (.int x1), some (.int x2)] [] (jKS, I, L, jR0) (jQm (none) Q) := by
  intro x1 x2 I L h
  rw [wX6_readOperand_129] at h
  refine jr_aload_n dX6_readOperand_129 rfl rfl ?_
  refine jr_dup dX6_readOperand_130 rfl ?_
  refine jv_geti rfl ff_X6_29 ks_17 dX6_readOperand_131 ?_
  refine jr_iconst dX6_readOperand_134 kic_1 ?_
  refine jr_iadd dX6_readOperand_135 ?_
  refine jr_puti ff_X6_29 ks_17 dX6_readOperand_136 ?_
  refine jr_aload_n dX6_readOperand_139 rfl rfl ?_
  refine jr_iload_n dX6_readOperand_140 rfl rfl ?_
  refine jr_iconst dX6_readOperand_141 kic_1 ?_
  refine jr_iadd dX6_readOperand_142 ?_
  refine jr_callV (mc2 := 0) (mc := 0) (ms2 := 0) (ms := 0) vm_X6_66 (av := [.int (x1 + (1 : Int32))]) (st := []) rfl rfl ks_17 (by decide) rfl (Nat.le_of_ble_eq_true rfl) dX6_readOperand_143 (cV_use (M := (yX6_readOperand, cX6_readOperand, 3, none)) h ?_)
  intro I1 L1 h
  refine jr_aload_n dX6_readOperand_146 rfl rfl ?_
  refine jr_sipush dX6_readOperand_147 ksp_11000 ?_
  refine jr_iload_n dX6_readOperand_150 rfl rfl ?_
  refine jr_bipush dX6_readOperand_151 kbp_45 ?_
  refine jr_icmp_ne dX6_readOperand_153 (tgt := 161) (by decide) (fun c => ?_) (fun c => ?_)
  · rw [if_neg c] at h
    refine jr_bipush dX6_readOperand_161 kbp_33 ?_
    exact J.sub (wX6_readOperand_163_ok  _ _ _ _ h) (jsub_none (jsub_none (jsub_none jsub_nil)))
  · rw [if_pos c] at h
    refine jr_bipush dX6_readOperand_156 kbp_126 ?_
    refine jr_goto dX6_readOperand_158 (tgt := 163) (by decide) ?_
    exact J.sub (wX6_readOperand_163_ok  _ _ _ _ h) (jsub_none (jsub_none (jsub_none jsub_nil)))
def wX6_readOperand (G : jG) (l : Launch) (d : Nat) (x1 : Int32) (I : jS) (L : jL) (Q : Option Value → jS → jL → Prop) : Prop := cI G l mX6_next d [.ref 17] I L (fun r1 I1 L1 => (cI G l mX6_isDigit d [.int r1] I1 L1 (fun r2 I2 L2 => (if r2 = 0 then (cI G l mX6_nameOf d [.int r1] I2 L2 (fun r3 I3 L3 => (if r3 < 0 then (if x1 < (6 : Int32) then (if r1 = (40 : Int32) then (cV G l mX6_readLevel d [.ref 17, .int (0 : Int32), .int (x1 + (1 : Int32))] (u2 I3 17 6 ((I3 17 6) + (1 : Int32))) L3 (fun I5 L5 => (cI G l mX6_next d [.ref 17] I5 L5 (fun r6 I6 L6 => (if r6 = (41 : Int32) then (Q none (u2 I6 17 6 ((I6 17 6) + (1 : Int32))) L6) else (cV G l mX6_spoil d [.ref 17] I6 L6 (fun I7 L7 => (Q none I7 L7)))))))) else (if r1 = (33 : Int32) then (wX6_readOperand_129 G l d Q x1 r1 I3 L3) else (if r1 = (45 : Int32) then (wX6_readOperand_129 G l d Q x1 r1 I3 L3) else (cV G l mX6_spoil d [.ref 17] I3 L3 (fun I4 L4 => (Q none I4 L4)))))) else (cV G l mX6_spoil d [.ref 17] I3 L3 (fun I8 L8 => (Q none I8 L8)))) else (cI G l mX6_nameOf d [.int r1] (u2 I3 17 6 ((I3 17 6) + (1 : Int32))) L3 (fun r9 I9 L9 => (cV G l mX6_emit d [.ref 17, .int ((10000 : Int32) + r9)] I9 L9 (fun I10 L10 => (Q none I10 L10)))))))) else (cV G l mX6_readNumber d [.ref 17] I2 L2 (fun I11 L11 => (Q none I11 L11)))))))
set_option maxRecDepth 100000 in
set_option maxHeartbeats 4000000 in
theorem wX6_readOperand_ok {G : jG} {l : Launch} {d : Nat} {Q : Option Value → jS → jL → Prop} {x1 : Int32} {I : jS} {L : jL} (h : wX6_readOperand G l d x1 I L Q) : cM G l mX6_readOperand (d + 1) [.ref 17, .int x1] I L Q := by
  rw [wX6_readOperand] at h
  show jCall G l yX6_readOperand cX6_readOperand 3 (none) (d + 1) 0 0 _ (jKS, I, L, jR0) _
  refine jCall_of (n0 := 1) (ls := [some (.ref 17), some (.int x1), none]) (by decide +kernel) rfl (Nat.le_of_ble_eq_true rfl) (jQm_of ?_)
  refine jr_aload_n dX6_readOperand_0 rfl rfl ?_
  refine jr_callV (mc2 := 0) (mc := 0) (ms2 := 0) (ms := 0) vm_X6_58 (av := []) (st := []) rfl rfl ks_17 (by decide) rfl (Nat.le_of_ble_eq_true rfl) dX6_readOperand_1 (cI_use (M := (yX6_next, cX6_next, 1, some .int)) h ?_)
  intro r1 I1 L1 h
  refine jr_istore_n dX6_readOperand_4 rfl (by decide) rfl ?_
  refine jr_iload_n dX6_readOperand_5 rfl rfl ?_
  refine jr_callS (mc2 := 0) (mc := 0) (ms2 := 0) (ms := 0) vm_X6_73 (av := [.int r1]) (st := []) rfl rfl (Nat.le_of_ble_eq_true rfl) dX6_readOperand_6 (cI_use (M := (yX6_isDigit, cX6_isDigit, 1, some .boolean)) h ?_)
  intro r2 I2 L2 h
  refine jr_if_eq dX6_readOperand_9 (tgt := 19) (by decide) (fun c => ?_) (fun c => ?_)
  · rw [if_pos c] at h
    refine jr_iload_n dX6_readOperand_19 rfl rfl ?_
    refine jr_callS (mc2 := 0) (mc := 0) (ms2 := 0) (ms := 0) vm_X6_80 (av := [.int r1]) (st := []) rfl rfl (Nat.le_of_ble_eq_true rfl) dX6_readOperand_20 (cI_use (M := (yX6_nameOf, cX6_nameOf, 1, some .int)) h ?_)
    intro r3 I3 L3 h
    refine jr_if_lt dX6_readOperand_23 (tgt := 51) (by decide) (fun c => ?_) (fun c => ?_)
    · rw [if_pos c] at h
      refine jr_iload_n dX6_readOperand_51 rfl rfl ?_
      refine jr_bipush dX6_readOperand_52 kbp_6 ?_
      refine jr_icmp_lt dX6_readOperand_54 (tgt := 64) (by decide) (fun c => ?_) (fun c => ?_)
      · rw [if_pos c] at h
        refine jr_iload_n dX6_readOperand_64 rfl rfl ?_
        refine jr_bipush dX6_readOperand_65 kbp_40 ?_
        refine jr_icmp_ne dX6_readOperand_67 (tgt := 117) (by decide) (fun c => ?_) (fun c => ?_)
        · rw [if_neg c] at h
          refine jr_iload_n dX6_readOperand_117 rfl rfl ?_
          refine jr_bipush dX6_readOperand_118 kbp_33 ?_
          refine jr_icmp_eq dX6_readOperand_120 (tgt := 129) (by decide) (fun c => ?_) (fun c => ?_)
          · rw [if_pos c] at h
            exact J.sub (wX6_readOperand_129_ok  _ _ _ _ h) (jsub_some (jsub_some (jsub_some jsub_nil)))
          · rw [if_neg c] at h
            refine jr_iload_n dX6_readOperand_123 rfl rfl ?_
            refine jr_bipush dX6_readOperand_124 kbp_45 ?_
            refine jr_icmp_ne dX6_readOperand_126 (tgt := 170) (by decide) (fun c => ?_) (fun c => ?_)
            · rw [if_neg c] at h
              refine jr_aload_n dX6_readOperand_170 rfl rfl ?_
              refine jr_callV (mc2 := 0) (mc := 0) (ms2 := 0) (ms := 0) vm_X6_45 (av := []) (st := []) rfl rfl ks_17 (by decide) rfl (Nat.le_of_ble_eq_true rfl) dX6_readOperand_171 (cV_use (M := (yX6_spoil, cX6_spoil, 1, none)) h ?_)
              intro I4 L4 h
              exact jr_return dX6_readOperand_174 ⟨Or.inl ⟨rfl, rfl⟩, _, _, rfl, h⟩
            · rw [if_pos c] at h
              exact J.sub (wX6_readOperand_129_ok  _ _ _ _ h) (jsub_some (jsub_some (jsub_some jsub_nil)))
        · rw [if_pos c] at h
          refine jr_aload_n dX6_readOperand_70 rfl rfl ?_
          refine jr_dup dX6_readOperand_71 rfl ?_
          refine jv_geti rfl ff_X6_29 ks_17 dX6_readOperand_72 ?_
          refine jr_iconst dX6_readOperand_75 kic_1 ?_
          refine jr_iadd dX6_readOperand_76 ?_
          refine jr_puti ff_X6_29 ks_17 dX6_readOperand_77 ?_
          refine jr_aload_n dX6_readOperand_80 rfl rfl ?_
          refine jr_iconst dX6_readOperand_81 kic_0 ?_
          refine jr_iload_n dX6_readOperand_82 rfl rfl ?_
          refine jr_iconst dX6_readOperand_83 kic_1 ?_
          refine jr_iadd dX6_readOperand_84 ?_
          refine jr_callV (mc2 := 0) (mc := 0) (ms2 := 0) (ms := 0) vm_X6_54 (av := [.int (0 : Int32), .int (x1 + (1 : Int32))]) (st := []) rfl rfl ks_17 (by decide) rfl (Nat.le_of_ble_eq_true rfl) dX6_readOperand_85 (cV_use (M := (yX6_readLevel, cX6_readLevel, 6, none)) h ?_)
          intro I5 L5 h
          refine jr_aload_n dX6_readOperand_88 rfl rfl ?_
          refine jr_callV (mc2 := 0) (mc := 0) (ms2 := 0) (ms := 0) vm_X6_58 (av := []) (st := []) rfl rfl ks_17 (by decide) rfl (Nat.le_of_ble_eq_true rfl) dX6_readOperand_89 (cI_use (M := (yX6_next, cX6_next, 1, some .int)) h ?_)
          intro r6 I6 L6 h
          refine jr_bipush dX6_readOperand_92 kbp_41 ?_
          refine jr_icmp_ne dX6_readOperand_94 (tgt := 110) (by decide) (fun c => ?_) (fun c => ?_)
          · rw [if_neg c] at h
            refine jr_aload_n dX6_readOperand_110 rfl rfl ?_
            refine jr_callV (mc2 := 0) (mc := 0) (ms2 := 0) (ms := 0) vm_X6_45 (av := []) (st := []) rfl rfl ks_17 (by decide) rfl (Nat.le_of_ble_eq_true rfl) dX6_readOperand_111 (cV_use (M := (yX6_spoil, cX6_spoil, 1, none)) h ?_)
            intro I7 L7 h
            refine jr_goto dX6_readOperand_114 (tgt := 174) (by decide) ?_
            exact jr_return dX6_readOperand_174 ⟨Or.inl ⟨rfl, rfl⟩, _, _, rfl, h⟩
          · rw [if_pos c] at h
            refine jr_aload_n dX6_readOperand_97 rfl rfl ?_
            refine jr_dup dX6_readOperand_98 rfl ?_
            refine jv_geti rfl ff_X6_29 ks_17 dX6_readOperand_99 ?_
            refine jr_iconst dX6_readOperand_102 kic_1 ?_
            refine jr_iadd dX6_readOperand_103 ?_
            refine jr_puti ff_X6_29 ks_17 dX6_readOperand_104 ?_
            refine jr_goto dX6_readOperand_107 (tgt := 174) (by decide) ?_
            exact jr_return dX6_readOperand_174 ⟨Or.inl ⟨rfl, rfl⟩, _, _, rfl, h⟩
      · rw [if_neg c] at h
        refine jr_aload_n dX6_readOperand_57 rfl rfl ?_
        refine jr_callV (mc2 := 0) (mc := 0) (ms2 := 0) (ms := 0) vm_X6_45 (av := []) (st := []) rfl rfl ks_17 (by decide) rfl (Nat.le_of_ble_eq_true rfl) dX6_readOperand_58 (cV_use (M := (yX6_spoil, cX6_spoil, 1, none)) h ?_)
        intro I8 L8 h
        refine jr_goto dX6_readOperand_61 (tgt := 174) (by decide) ?_
        exact jr_return dX6_readOperand_174 ⟨Or.inl ⟨rfl, rfl⟩, _, _, rfl, h⟩
    · rw [if_neg c] at h
      refine jr_aload_n dX6_readOperand_26 rfl rfl ?_
      refine jr_dup dX6_readOperand_27 rfl ?_
      refine jv_geti rfl ff_X6_29 ks_17 dX6_readOperand_28 ?_
      refine jr_iconst dX6_readOperand_31 kic_1 ?_
      refine jr_iadd dX6_readOperand_32 ?_
      refine jr_puti ff_X6_29 ks_17 dX6_readOperand_33 ?_
      refine jr_aload_n dX6_readOperand_36 rfl rfl ?_
      refine jr_sipush dX6_readOperand_37 ksp_10000 ?_
      refine jr_iload_n dX6_readOperand_40 rfl rfl ?_
      refine jr_callS (mc2 := 0) (mc := 0) (ms2 := 0) (ms := 0) vm_X6_80 (av := [.int r1]) (st := [.int (10000 : Int32), .ref 17]) rfl rfl (Nat.le_of_ble_eq_true rfl) dX6_readOperand_41 (cI_use (M := (yX6_nameOf, cX6_nameOf, 1, some .int)) h ?_)
      intro r9 I9 L9 h
      refine jr_iadd dX6_readOperand_44 ?_
      refine jr_callV (mc2 := 0) (mc := 0) (ms2 := 0) (ms := 0) vm_X6_62 (av := [.int ((10000 : Int32) + r9)]) (st := []) rfl rfl ks_17 (by decide) rfl (Nat.le_of_ble_eq_true rfl) dX6_readOperand_45 (cV_use (M := (yX6_emit, cX6_emit, 2, none)) h ?_)
      intro I10 L10 h
      refine jr_goto dX6_readOperand_48 (tgt := 174) (by decide) ?_
      exact jr_return dX6_readOperand_174 ⟨Or.inl ⟨rfl, rfl⟩, _, _, rfl, h⟩
  · rw [if_neg c] at h
    refine jr_aload_n dX6_readOperand_12 rfl rfl ?_
    refine jr_callV (mc2 := 0) (mc := 0) (ms2 := 0) (ms := 0) vm_X6_77 (av := []) (st := []) rfl rfl ks_17 (by decide) rfl (Nat.le_of_ble_eq_true rfl) dX6_readOperand_13 (cV_use (M := (yX6_readNumber, cX6_readNumber, 3, none)) h ?_)
    intro I11 L11 h
    refine jr_goto dX6_readOperand_16 (tgt := 174) (by decide) ?_
    exact jr_return dX6_readOperand_174 ⟨Or.inl ⟨rfl, rfl⟩, _, _, rfl, h⟩
def wX6_readNumber_48 (G : jG) (l : Launch) (d : Nat) (Q : Option Value → jS → jL → Prop) (x1 : Int32) (I : jS) (L : jL) : Prop := cV G l mX6_emit d [.ref 17, .int x1] I L (fun I1 L1 => (Q none I1 L1))
set_option maxRecDepth 100000 in
set_option maxHeartbeats 4000000 in
theorem wX6_readNumber_48_ok {G : jG} {l : Launch} {d : Nat} {Q : Option Value → jS → jL → Prop} : ∀ (x1 : Int32) (I : jS) (L : jL), wX6_readNumber_48 G l d Q x1 I L → J G l yX6_readNumber cX6_readNumber 3 (d + 1) 0 0 48 [some (.ref 17), some (.int x1), none] [] (jKS, I, L, jR0) (jQm (none) Q) := by
  intro x1 I L h
  rw [wX6_readNumber_48] at h
  refine jr_aload_n dX6_readNumber_48 rfl rfl ?_
  refine jr_iload_n dX6_readNumber_49 rfl rfl ?_
  refine jr_callV (mc2 := 0) (mc := 0) (ms2 := 0) (ms := 0) vm_X6_62 (av := [.int x1]) (st := []) rfl rfl ks_17 (by decide) rfl (Nat.le_of_ble_eq_true rfl) dX6_readNumber_50 (cV_use (M := (yX6_emit, cX6_emit, 2, none)) h ?_)
  intro I1 L1 h
  exact jr_return dX6_readNumber_53 ⟨Or.inl ⟨rfl, rfl⟩, _, _, rfl, h⟩
def wX6_readNumber_4 (G : jG) (l : Launch) (d : Nat) (Q : Option Value → jS → jL → Prop) : Nat → Int32 → Int32 → jS → jL → Prop
  | 0, _, _, _, _ => False
  | n4 + 1, x1, x2, I, L => if (4 : Int32) ≤ x2 then (wX6_readNumber_48 G l d Q x1 I L) else (cI G l mX6_next d [.ref 17] I L (fun r1 I1 L1 => (cI G l mX6_isDigit d [.int r1] I1 L1 (fun r2 I2 L2 => (if r2 = 0 then (wX6_readNumber_48 G l d Q x1 I2 L2) else (cI G l mX6_next d [.ref 17] I2 L2 (fun r3 I3 L3 => ((wX6_readNumber_4 G l d Q n4) (((x1 * (10 : Int32)) + r3) - (48 : Int32)) (x2 + (1 : Int32)) (u2 I3 17 6 ((I3 17 6) + (1 : Int32))) L3))))))))
set_option maxRecDepth 100000 in
set_option maxHeartbeats 4000000 in
theorem wX6_readNumber_4_ok {G : jG} {l : Launch} {d : Nat} {Q : Option Value → jS → jL → Prop} : ∀ (n : Nat) (x1 : Int32) (x2 : Int32) (I : jS) (L : jL), wX6_readNumber_4 G l d Q n x1 x2 I L → J G l yX6_readNumber cX6_readNumber 3 (d + 1) 0 0 4 [some (.ref 17), some (.int x1), some (.int x2)] [] (jKS, I, L, jR0) (jQm (none) Q) := by
  intro n
  induction n with
  | zero => intro x1 x2 I L h; exact h.elim
  | succ n ih =>
    intro x1 x2 I L h
    rw [wX6_readNumber_4] at h
    refine jr_iload_n dX6_readNumber_4 rfl rfl ?_
    refine jr_iconst dX6_readNumber_5 kic_4 ?_
    refine jr_icmp_ge dX6_readNumber_6 (tgt := 48) (by decide) (fun c => ?_) (fun c => ?_)
    · rw [if_pos c] at h
      exact J.sub (wX6_readNumber_48_ok  _ _ _ h) (jsub_some (jsub_some (jsub_none jsub_nil)))
    · rw [if_neg c] at h
      refine jr_aload_n dX6_readNumber_9 rfl rfl ?_
      refine jr_callV (mc2 := 0) (mc := 0) (ms2 := 0) (ms := 0) vm_X6_58 (av := []) (st := []) rfl rfl ks_17 (by decide) rfl (Nat.le_of_ble_eq_true rfl) dX6_readNumber_10 (cI_use (M := (yX6_next, cX6_next, 1, some .int)) h ?_)
      intro r1 I1 L1 h
      refine jr_callS (mc2 := 0) (mc := 0) (ms2 := 0) (ms := 0) vm_X6_73 (av := [.int r1]) (st := []) rfl rfl (Nat.le_of_ble_eq_true rfl) dX6_readNumber_13 (cI_use (M := (yX6_isDigit, cX6_isDigit, 1, some .boolean)) h ?_)
      intro r2 I2 L2 h
      refine jr_if_eq dX6_readNumber_16 (tgt := 48) (by decide) (fun c => ?_) (fun c => ?_)
      · rw [if_pos c] at h
        exact J.sub (wX6_readNumber_48_ok  _ _ _ h) (jsub_some (jsub_some (jsub_none jsub_nil)))
      · rw [if_neg c] at h
        refine jr_iload_n dX6_readNumber_19 rfl rfl ?_
        refine jr_bipush dX6_readNumber_20 kbp_10 ?_
        refine jr_imul dX6_readNumber_22 ?_
        refine jr_aload_n dX6_readNumber_23 rfl rfl ?_
        refine jr_callV (mc2 := 0) (mc := 0) (ms2 := 0) (ms := 0) vm_X6_58 (av := []) (st := [.int (x1 * (10 : Int32))]) rfl rfl ks_17 (by decide) rfl (Nat.le_of_ble_eq_true rfl) dX6_readNumber_24 (cI_use (M := (yX6_next, cX6_next, 1, some .int)) h ?_)
        intro r3 I3 L3 h
        refine jr_iadd dX6_readNumber_27 ?_
        refine jr_bipush dX6_readNumber_28 kbp_48 ?_
        refine jr_isub dX6_readNumber_30 ?_
        refine jr_istore_n dX6_readNumber_31 rfl (by decide) rfl ?_
        refine jr_aload_n dX6_readNumber_32 rfl rfl ?_
        refine jr_dup dX6_readNumber_33 rfl ?_
        refine jv_geti rfl ff_X6_29 ks_17 dX6_readNumber_34 ?_
        refine jr_iconst dX6_readNumber_37 kic_1 ?_
        refine jr_iadd dX6_readNumber_38 ?_
        refine jr_puti ff_X6_29 ks_17 dX6_readNumber_39 ?_
        refine jr_iinc dX6_readNumber_42 rfl (by rw [kic_1]) (by decide) rfl ?_
        refine jr_goto dX6_readNumber_45 (tgt := 4) (by decide) ?_
        exact J.sub (ih _ _ _ _ h) (jsub_some (jsub_some (jsub_some jsub_nil)))
def wX6_readNumber (G : jG) (l : Launch) (d : Nat) (I : jS) (L : jL) (Q : Option Value → jS → jL → Prop) : Prop := ∃ e4 : Nat, wX6_readNumber_4 G l d Q e4 (0 : Int32) (0 : Int32) I L
set_option maxRecDepth 100000 in
set_option maxHeartbeats 4000000 in
theorem wX6_readNumber_ok {G : jG} {l : Launch} {d : Nat} {Q : Option Value → jS → jL → Prop} {I : jS} {L : jL} (h : wX6_readNumber G l d I L Q) : cM G l mX6_readNumber (d + 1) [.ref 17] I L Q := by
  rw [wX6_readNumber] at h
  show jCall G l yX6_readNumber cX6_readNumber 3 (none) (d + 1) 0 0 _ (jKS, I, L, jR0) _
  refine jCall_of (n0 := 2) (ls := [some (.ref 17), none, none]) (by decide +kernel) rfl (Nat.le_of_ble_eq_true rfl) (jQm_of ?_)
  refine jr_iconst dX6_readNumber_0 kic_0 ?_
  refine jr_istore_n dX6_readNumber_1 rfl (by decide) rfl ?_
  refine jr_iconst dX6_readNumber_2 kic_0 ?_
  refine jr_istore_n dX6_readNumber_3 rfl (by decide) rfl ?_
  obtain ⟨e4, h⟩ := h
  exact J.sub (wX6_readNumber_4_ok  e4 _ _ _ _ h) (jsub_some (jsub_some (jsub_some jsub_nil)))
def wX6_next (G : jG) (l : Launch) (d : Nat) (I : jS) (L : jL) (Q : Option Value → jS → jL → Prop) : Prop := if 0 ≤ (I 17 7) then (Q (some (.int (-1 : Int32))) I L) else (if (I 17 6) < 0 then (Q (some (.int (-1 : Int32))) I L) else (if (I 17 5) ≤ (I 17 6) then (Q (some (.int (-1 : Int32))) I L) else (if (120 : Int32) ≤ (I 17 6) then (Q (some (.int (-1 : Int32))) I L) else (vp_in (I 17 6) 120 ∧ (Q (some (.int (I 18 ((I 17 6).toNatClampNeg)))) I L)))))
set_option maxRecDepth 100000 in
set_option maxHeartbeats 4000000 in
theorem wX6_next_ok {G : jG} {l : Launch} {d : Nat} {Q : Option Value → jS → jL → Prop} {I : jS} {L : jL} (h : wX6_next G l d I L Q) : cM G l mX6_next (d + 1) [.ref 17] I L Q := by
  rw [wX6_next] at h
  show jCall G l yX6_next cX6_next 1 (some .int) (d + 1) 0 0 _ (jKS, I, L, jR0) _
  refine jCall_of (n0 := 0) (ls := [some (.ref 17)]) (by decide +kernel) rfl (Nat.le_of_ble_eq_true rfl) (jQm_of ?_)
  refine jr_aload_n dX6_next_0 rfl rfl ?_
  refine jv_geti rfl ff_X6_32 ks_17 dX6_next_1 ?_
  refine jr_if_ge dX6_next_4 (tgt := 46) (by decide) (fun c => ?_) (fun c => ?_)
  · rw [if_pos c] at h
    refine jr_iconst dX6_next_46 kic_m1 ?_
    exact jr_ireturn dX6_next_47 ⟨Or.inr (Or.inl ⟨rfl, _, rfl⟩), _, _, rfl, h⟩
  · rw [if_neg c] at h
    refine jr_aload_n dX6_next_7 rfl rfl ?_
    refine jv_geti rfl ff_X6_29 ks_17 dX6_next_8 ?_
    refine jr_if_lt dX6_next_11 (tgt := 46) (by decide) (fun c => ?_) (fun c => ?_)
    · rw [if_pos c] at h
      refine jr_iconst dX6_next_46 kic_m1 ?_
      exact jr_ireturn dX6_next_47 ⟨Or.inr (Or.inl ⟨rfl, _, rfl⟩), _, _, rfl, h⟩
    · rw [if_neg c] at h
      refine jr_aload_n dX6_next_14 rfl rfl ?_
      refine jv_geti rfl ff_X6_29 ks_17 dX6_next_15 ?_
      refine jr_aload_n dX6_next_18 rfl rfl ?_
      refine jv_geti rfl ff_X6_25 ks_17 dX6_next_19 ?_
      refine jr_icmp_ge dX6_next_22 (tgt := 46) (by decide) (fun c => ?_) (fun c => ?_)
      · rw [if_pos c] at h
        refine jr_iconst dX6_next_46 kic_m1 ?_
        exact jr_ireturn dX6_next_47 ⟨Or.inr (Or.inl ⟨rfl, _, rfl⟩), _, _, rfl, h⟩
      · rw [if_neg c] at h
        refine jr_aload_n dX6_next_25 rfl rfl ?_
        refine jv_geti rfl ff_X6_29 ks_17 dX6_next_26 ?_
        refine jr_bipush dX6_next_29 kbp_120 ?_
        refine jr_icmp_ge dX6_next_31 (tgt := 46) (by decide) (fun c => ?_) (fun c => ?_)
        · rw [if_pos c] at h
          refine jr_iconst dX6_next_46 kic_m1 ?_
          exact jr_ireturn dX6_next_47 ⟨Or.inr (Or.inl ⟨rfl, _, rfl⟩), _, _, rfl, h⟩
        · rw [if_neg c] at h
          refine jr_aload_n dX6_next_34 rfl rfl ?_
          refine jr_geta ff_X6_9 ks_17 rr_17_0 dX6_next_35 ?_
          refine jr_aload_n dX6_next_38 rfl rfl ?_
          refine jv_geti rfl ff_X6_29 ks_17 dX6_next_39 ?_
          obtain ⟨g1, h⟩ := h
          refine jv_iaload rfl rfl ks_18 dX6_next_42 g1 ?_
          refine jr_goto dX6_next_43 (tgt := 47) (by decide) ?_
          exact jr_ireturn dX6_next_47 ⟨Or.inr (Or.inl ⟨rfl, _, rfl⟩), _, _, rfl, h⟩
def wX6_spoil (G : jG) (l : Launch) (d : Nat) (I : jS) (L : jL) (Q : Option Value → jS → jL → Prop) : Prop := if 0 ≤ (I 17 7) then (Q none I L) else (Q none (u2 I 17 7 (I 17 6)) L)
set_option maxRecDepth 100000 in
set_option maxHeartbeats 4000000 in
theorem wX6_spoil_ok {G : jG} {l : Launch} {d : Nat} {Q : Option Value → jS → jL → Prop} {I : jS} {L : jL} (h : wX6_spoil G l d I L Q) : cM G l mX6_spoil (d + 1) [.ref 17] I L Q := by
  rw [wX6_spoil] at h
  show jCall G l yX6_spoil cX6_spoil 1 (none) (d + 1) 0 0 _ (jKS, I, L, jR0) _
  refine jCall_of (n0 := 0) (ls := [some (.ref 17)]) (by decide +kernel) rfl (Nat.le_of_ble_eq_true rfl) (jQm_of ?_)
  refine jr_aload_n dX6_spoil_0 rfl rfl ?_
  refine jv_geti rfl ff_X6_32 ks_17 dX6_spoil_1 ?_
  refine jr_if_ge dX6_spoil_4 (tgt := 15) (by decide) (fun c => ?_) (fun c => ?_)
  · rw [if_pos c] at h
    exact jr_return dX6_spoil_15 ⟨Or.inl ⟨rfl, rfl⟩, _, _, rfl, h⟩
  · rw [if_neg c] at h
    refine jr_aload_n dX6_spoil_7 rfl rfl ?_
    refine jr_aload_n dX6_spoil_8 rfl rfl ?_
    refine jv_geti rfl ff_X6_29 ks_17 dX6_spoil_9 ?_
    refine jr_puti ff_X6_32 ks_17 dX6_spoil_12 ?_
    exact jr_return dX6_spoil_15 ⟨Or.inl ⟨rfl, rfl⟩, _, _, rfl, h⟩
def wX6_emit (G : jG) (l : Launch) (d : Nat) (x1 : Int32) (I : jS) (L : jL) (Q : Option Value → jS → jL → Prop) : Prop := if (I 17 8) < 0 then (Q none I L) else (if (I 17 8) < (121 : Int32) then (vp_in (I 17 8) 121 ∧ (Q none (u2 (u2 I 19 ((I 17 8).toNatClampNeg) x1) 17 8 ((I 17 8) + (1 : Int32))) L)) else (Q none I L))
set_option maxRecDepth 100000 in
set_option maxHeartbeats 4000000 in
theorem wX6_emit_ok {G : jG} {l : Launch} {d : Nat} {Q : Option Value → jS → jL → Prop} {x1 : Int32} {I : jS} {L : jL} (h : wX6_emit G l d x1 I L Q) : cM G l mX6_emit (d + 1) [.ref 17, .int x1] I L Q := by
  rw [wX6_emit] at h
  show jCall G l yX6_emit cX6_emit 2 (none) (d + 1) 0 0 _ (jKS, I, L, jR0) _
  refine jCall_of (n0 := 0) (ls := [some (.ref 17), some (.int x1)]) (by decide +kernel) rfl (Nat.le_of_ble_eq_true rfl) (jQm_of ?_)
  refine jr_aload_n dX6_emit_0 rfl rfl ?_
  refine jv_geti rfl ff_X6_35 ks_17 dX6_emit_1 ?_
  refine jr_if_lt dX6_emit_4 (tgt := 19) (by decide) (fun c => ?_) (fun c => ?_)
  · rw [if_pos c] at h
    exact jr_return dX6_emit_19 ⟨Or.inl ⟨rfl, rfl⟩, _, _, rfl, h⟩
  · rw [if_neg c] at h
    refine jr_aload_n dX6_emit_7 rfl rfl ?_
    refine jv_geti rfl ff_X6_35 ks_17 dX6_emit_8 ?_
    refine jr_aload_n dX6_emit_11 rfl rfl ?_
    refine jr_geta ff_X6_13 ks_17 rr_17_1 dX6_emit_12 ?_
    refine jr_alen_i ks_19 kln_121 dX6_emit_15 ?_
    refine jr_icmp_lt dX6_emit_16 (tgt := 20) (by decide) (fun c => ?_) (fun c => ?_)
    · rw [if_pos c] at h
      refine jr_aload_n dX6_emit_20 rfl rfl ?_
      refine jr_geta ff_X6_13 ks_17 rr_17_1 dX6_emit_21 ?_
      refine jr_aload_n dX6_emit_24 rfl rfl ?_
      refine jv_geti rfl ff_X6_35 ks_17 dX6_emit_25 ?_
      refine jr_iload_n dX6_emit_28 rfl rfl ?_
      obtain ⟨g1, h⟩ := h
      refine jr_iastore rfl ks_19 dX6_emit_29 g1 ?_
      refine jr_aload_n dX6_emit_30 rfl rfl ?_
      refine jr_dup dX6_emit_31 rfl ?_
      refine jv_geti (u2n (by decide)) ff_X6_35 ks_17 dX6_emit_32 ?_
      refine jr_iconst dX6_emit_35 kic_1 ?_
      refine jr_iadd dX6_emit_36 ?_
      refine jr_puti ff_X6_35 ks_17 dX6_emit_37 ?_
      exact jr_return dX6_emit_40 ⟨Or.inl ⟨rfl, rfl⟩, _, _, rfl, h⟩
    · rw [if_neg c] at h
      exact jr_return dX6_emit_19 ⟨Or.inl ⟨rfl, rfl⟩, _, _, rfl, h⟩
def wX6_isDigit (G : jG) (l : Launch) (d : Nat) (x0 : Int32) (I : jS) (L : jL) (Q : Option Value → jS → jL → Prop) : Prop := if x0 < (48 : Int32) then (Q (some (.int (0 : Int32))) I L) else (if (57 : Int32) < x0 then (Q (some (.int (0 : Int32))) I L) else (Q (some (.int (1 : Int32))) I L))
set_option maxRecDepth 100000 in
set_option maxHeartbeats 4000000 in
theorem wX6_isDigit_ok {G : jG} {l : Launch} {d : Nat} {Q : Option Value → jS → jL → Prop} {x0 : Int32} {I : jS} {L : jL} (h : wX6_isDigit G l d x0 I L Q) : cM G l mX6_isDigit (d + 1) [.int x0] I L Q := by
  rw [wX6_isDigit] at h
  show jCall G l yX6_isDigit cX6_isDigit 1 (some .boolean) (d + 1) 0 0 _ (jKS, I, L, jR0) _
  refine jCall_of (n0 := 0) (ls := [some (.int x0)]) (by decide +kernel) rfl (Nat.le_of_ble_eq_true rfl) (jQm_of ?_)
  refine jr_iload_n dX6_isDigit_0 rfl rfl ?_
  refine jr_bipush dX6_isDigit_1 kbp_48 ?_
  refine jr_icmp_lt dX6_isDigit_3 (tgt := 16) (by decide) (fun c => ?_) (fun c => ?_)
  · rw [if_pos c] at h
    refine jr_iconst dX6_isDigit_16 kic_0 ?_
    exact jr_ireturn dX6_isDigit_17 ⟨Or.inr (Or.inr (Or.inr ⟨rfl, Or.inl rfl⟩)), _, _, rfl, h⟩
  · rw [if_neg c] at h
    refine jr_iload_n dX6_isDigit_6 rfl rfl ?_
    refine jr_bipush dX6_isDigit_7 kbp_57 ?_
    refine jr_icmp_gt dX6_isDigit_9 (tgt := 16) (by decide) (fun c => ?_) (fun c => ?_)
    · rw [if_pos c] at h
      refine jr_iconst dX6_isDigit_16 kic_0 ?_
      exact jr_ireturn dX6_isDigit_17 ⟨Or.inr (Or.inr (Or.inr ⟨rfl, Or.inl rfl⟩)), _, _, rfl, h⟩
    · rw [if_neg c] at h
      refine jr_iconst dX6_isDigit_12 kic_1 ?_
      refine jr_goto dX6_isDigit_13 (tgt := 17) (by decide) ?_
      exact jr_ireturn dX6_isDigit_17 ⟨Or.inr (Or.inr (Or.inr ⟨rfl, Or.inr rfl⟩)), _, _, rfl, h⟩
def wX6_nameOf (G : jG) (l : Launch) (d : Nat) (x0 : Int32) (I : jS) (L : jL) (Q : Option Value → jS → jL → Prop) : Prop := if x0 = (98 : Int32) then (Q (some (.int (3 : Int32))) I L) else (if x0 = (109 : Int32) then (Q (some (.int (5 : Int32))) I L) else (if x0 = (112 : Int32) then (Q (some (.int (2 : Int32))) I L) else (if x0 = (115 : Int32) then (Q (some (.int (4 : Int32))) I L) else (if x0 = (116 : Int32) then (Q (some (.int (1 : Int32))) I L) else (if x0 = (119 : Int32) then (Q (some (.int (0 : Int32))) I L) else (Q (some (.int (-1 : Int32))) I L))))))
set_option maxRecDepth 100000 in
set_option maxHeartbeats 4000000 in
theorem wX6_nameOf_ok {G : jG} {l : Launch} {d : Nat} {Q : Option Value → jS → jL → Prop} {x0 : Int32} {I : jS} {L : jL} (h : wX6_nameOf G l d x0 I L Q) : cM G l mX6_nameOf (d + 1) [.int x0] I L Q := by
  rw [wX6_nameOf] at h
  show jCall G l yX6_nameOf cX6_nameOf 1 (some .int) (d + 1) 0 0 _ (jKS, I, L, jR0) _
  refine jCall_of (n0 := 0) (ls := [some (.int x0)]) (by decide +kernel) rfl (Nat.le_of_ble_eq_true rfl) (jQm_of ?_)
  refine jr_iload_n dX6_nameOf_0 rfl rfl ?_
  by_cases c : x0 = (98 : Int32)
  · rw [if_pos c] at h
    refine jr_lookup dX6_nameOf_1 (by decide) (off := 65) (jlk c (by decide)) (tgt := 66) (by decide) ?_
    refine jr_iconst dX6_nameOf_66 kic_3 ?_
    exact jr_ireturn dX6_nameOf_67 ⟨Or.inr (Or.inl ⟨rfl, _, rfl⟩), _, _, rfl, h⟩
  · rw [if_neg c] at h
    have c98 := c
    by_cases c : x0 = (109 : Int32)
    · rw [if_pos c] at h
      refine jr_lookup dX6_nameOf_1 (by decide) (off := 69) (jlk c (by decide)) (tgt := 70) (by decide) ?_
      refine jr_iconst dX6_nameOf_70 kic_5 ?_
      exact jr_ireturn dX6_nameOf_71 ⟨Or.inr (Or.inl ⟨rfl, _, rfl⟩), _, _, rfl, h⟩
    · rw [if_neg c] at h
      have c109 := c
      by_cases c : x0 = (112 : Int32)
      · rw [if_pos c] at h
        refine jr_lookup dX6_nameOf_1 (by decide) (off := 63) (jlk c (by decide)) (tgt := 64) (by decide) ?_
        refine jr_iconst dX6_nameOf_64 kic_2 ?_
        exact jr_ireturn dX6_nameOf_65 ⟨Or.inr (Or.inl ⟨rfl, _, rfl⟩), _, _, rfl, h⟩
      · rw [if_neg c] at h
        have c112 := c
        by_cases c : x0 = (115 : Int32)
        · rw [if_pos c] at h
          refine jr_lookup dX6_nameOf_1 (by decide) (off := 67) (jlk c (by decide)) (tgt := 68) (by decide) ?_
          refine jr_iconst dX6_nameOf_68 kic_4 ?_
          exact jr_ireturn dX6_nameOf_69 ⟨Or.inr (Or.inl ⟨rfl, _, rfl⟩), _, _, rfl, h⟩
        · rw [if_neg c] at h
          have c115 := c
          by_cases c : x0 = (116 : Int32)
          · rw [if_pos c] at h
            refine jr_lookup dX6_nameOf_1 (by decide) (off := 61) (jlk c (by decide)) (tgt := 62) (by decide) ?_
            refine jr_iconst dX6_nameOf_62 kic_1 ?_
            exact jr_ireturn dX6_nameOf_63 ⟨Or.inr (Or.inl ⟨rfl, _, rfl⟩), _, _, rfl, h⟩
          · rw [if_neg c] at h
            have c116 := c
            by_cases c : x0 = (119 : Int32)
            · rw [if_pos c] at h
              refine jr_lookup dX6_nameOf_1 (by decide) (off := 59) (jlk c (by decide)) (tgt := 60) (by decide) ?_
              refine jr_iconst dX6_nameOf_60 kic_0 ?_
              exact jr_ireturn dX6_nameOf_61 ⟨Or.inr (Or.inl ⟨rfl, _, rfl⟩), _, _, rfl, h⟩
            · rw [if_neg c] at h
              have c119 := c
              refine jr_lookup dX6_nameOf_1 (by decide) (off := 71) (by rw [lv_osw c98 (a := 98) rfl, lv_osw c109 (a := 109) rfl, lv_osw c112 (a := 112) rfl, lv_osw c115 (a := 115) rfl, lv_osw c116 (a := 116) rfl, lv_osw c119 (a := 119) rfl]; rfl) (tgt := 72) (by decide) ?_
              refine jr_iconst dX6_nameOf_72 kic_m1 ?_
              exact jr_ireturn dX6_nameOf_73 ⟨Or.inr (Or.inl ⟨rfl, _, rfl⟩), _, _, rfl, h⟩
def wX6_levelOf (G : jG) (l : Launch) (d : Nat) (x0 : Int32) (I : jS) (L : jL) (Q : Option Value → jS → jL → Prop) : Prop := if x0 = (37 : Int32) then (Q (some (.int (4 : Int32))) I L) else (if x0 = (38 : Int32) then (Q (some (.int (1 : Int32))) I L) else (if x0 = (42 : Int32) then (Q (some (.int (4 : Int32))) I L) else (if x0 = (43 : Int32) then (Q (some (.int (3 : Int32))) I L) else (if x0 = (45 : Int32) then (Q (some (.int (3 : Int32))) I L) else (if x0 = (47 : Int32) then (Q (some (.int (4 : Int32))) I L) else (if x0 = (60 : Int32) then (Q (some (.int (2 : Int32))) I L) else (if x0 = (61 : Int32) then (Q (some (.int (2 : Int32))) I L) else (if x0 = (62 : Int32) then (Q (some (.int (2 : Int32))) I L) else (if x0 = (124 : Int32) then (Q (some (.int (0 : Int32))) I L) else (Q (some (.int (-1 : Int32))) I L))))))))))
set_option maxRecDepth 100000 in
set_option maxHeartbeats 4000000 in
theorem wX6_levelOf_ok {G : jG} {l : Launch} {d : Nat} {Q : Option Value → jS → jL → Prop} {x0 : Int32} {I : jS} {L : jL} (h : wX6_levelOf G l d x0 I L Q) : cM G l mX6_levelOf (d + 1) [.int x0] I L Q := by
  rw [wX6_levelOf] at h
  show jCall G l yX6_levelOf cX6_levelOf 1 (some .int) (d + 1) 0 0 _ (jKS, I, L, jR0) _
  refine jCall_of (n0 := 0) (ls := [some (.int x0)]) (by decide +kernel) rfl (Nat.le_of_ble_eq_true rfl) (jQm_of ?_)
  refine jr_iload_n dX6_levelOf_0 rfl rfl ?_
  by_cases c : x0 = (37 : Int32)
  · rw [if_pos c] at h
    refine jr_lookup dX6_levelOf_1 (by decide) (off := 99) (jlk c (by decide)) (tgt := 100) (by decide) ?_
    refine jr_iconst dX6_levelOf_100 kic_4 ?_
    exact jr_ireturn dX6_levelOf_101 ⟨Or.inr (Or.inl ⟨rfl, _, rfl⟩), _, _, rfl, h⟩
  · rw [if_neg c] at h
    have c37 := c
    by_cases c : x0 = (38 : Int32)
    · rw [if_pos c] at h
      refine jr_lookup dX6_levelOf_1 (by decide) (off := 93) (jlk c (by decide)) (tgt := 94) (by decide) ?_
      refine jr_iconst dX6_levelOf_94 kic_1 ?_
      exact jr_ireturn dX6_levelOf_95 ⟨Or.inr (Or.inl ⟨rfl, _, rfl⟩), _, _, rfl, h⟩
    · rw [if_neg c] at h
      have c38 := c
      by_cases c : x0 = (42 : Int32)
      · rw [if_pos c] at h
        refine jr_lookup dX6_levelOf_1 (by decide) (off := 99) (jlk c (by decide)) (tgt := 100) (by decide) ?_
        refine jr_iconst dX6_levelOf_100 kic_4 ?_
        exact jr_ireturn dX6_levelOf_101 ⟨Or.inr (Or.inl ⟨rfl, _, rfl⟩), _, _, rfl, h⟩
      · rw [if_neg c] at h
        have c42 := c
        by_cases c : x0 = (43 : Int32)
        · rw [if_pos c] at h
          refine jr_lookup dX6_levelOf_1 (by decide) (off := 97) (jlk c (by decide)) (tgt := 98) (by decide) ?_
          refine jr_iconst dX6_levelOf_98 kic_3 ?_
          exact jr_ireturn dX6_levelOf_99 ⟨Or.inr (Or.inl ⟨rfl, _, rfl⟩), _, _, rfl, h⟩
        · rw [if_neg c] at h
          have c43 := c
          by_cases c : x0 = (45 : Int32)
          · rw [if_pos c] at h
            refine jr_lookup dX6_levelOf_1 (by decide) (off := 97) (jlk c (by decide)) (tgt := 98) (by decide) ?_
            refine jr_iconst dX6_levelOf_98 kic_3 ?_
            exact jr_ireturn dX6_levelOf_99 ⟨Or.inr (Or.inl ⟨rfl, _, rfl⟩), _, _, rfl, h⟩
          · rw [if_neg c] at h
            have c45 := c
            by_cases c : x0 = (47 : Int32)
            · rw [if_pos c] at h
              refine jr_lookup dX6_levelOf_1 (by decide) (off := 99) (jlk c (by decide)) (tgt := 100) (by decide) ?_
              refine jr_iconst dX6_levelOf_100 kic_4 ?_
              exact jr_ireturn dX6_levelOf_101 ⟨Or.inr (Or.inl ⟨rfl, _, rfl⟩), _, _, rfl, h⟩
            · rw [if_neg c] at h
              have c47 := c
              by_cases c : x0 = (60 : Int32)
              · rw [if_pos c] at h
                refine jr_lookup dX6_levelOf_1 (by decide) (off := 95) (jlk c (by decide)) (tgt := 96) (by decide) ?_
                refine jr_iconst dX6_levelOf_96 kic_2 ?_
                exact jr_ireturn dX6_levelOf_97 ⟨Or.inr (Or.inl ⟨rfl, _, rfl⟩), _, _, rfl, h⟩
              · rw [if_neg c] at h
                have c60 := c
                by_cases c : x0 = (61 : Int32)
                · rw [if_pos c] at h
                  refine jr_lookup dX6_levelOf_1 (by decide) (off := 95) (jlk c (by decide)) (tgt := 96) (by decide) ?_
                  refine jr_iconst dX6_levelOf_96 kic_2 ?_
                  exact jr_ireturn dX6_levelOf_97 ⟨Or.inr (Or.inl ⟨rfl, _, rfl⟩), _, _, rfl, h⟩
                · rw [if_neg c] at h
                  have c61 := c
                  by_cases c : x0 = (62 : Int32)
                  · rw [if_pos c] at h
                    refine jr_lookup dX6_levelOf_1 (by decide) (off := 95) (jlk c (by decide)) (tgt := 96) (by decide) ?_
                    refine jr_iconst dX6_levelOf_96 kic_2 ?_
                    exact jr_ireturn dX6_levelOf_97 ⟨Or.inr (Or.inl ⟨rfl, _, rfl⟩), _, _, rfl, h⟩
                  · rw [if_neg c] at h
                    have c62 := c
                    by_cases c : x0 = (124 : Int32)
                    · rw [if_pos c] at h
                      refine jr_lookup dX6_levelOf_1 (by decide) (off := 91) (jlk c (by decide)) (tgt := 92) (by decide) ?_
                      refine jr_iconst dX6_levelOf_92 kic_0 ?_
                      exact jr_ireturn dX6_levelOf_93 ⟨Or.inr (Or.inl ⟨rfl, _, rfl⟩), _, _, rfl, h⟩
                    · rw [if_neg c] at h
                      have c124 := c
                      refine jr_lookup dX6_levelOf_1 (by decide) (off := 101) (by rw [lv_osw c37 (a := 37) rfl, lv_osw c38 (a := 38) rfl, lv_osw c42 (a := 42) rfl, lv_osw c43 (a := 43) rfl, lv_osw c45 (a := 45) rfl, lv_osw c47 (a := 47) rfl, lv_osw c60 (a := 60) rfl, lv_osw c61 (a := 61) rfl, lv_osw c62 (a := 62) rfl, lv_osw c124 (a := 124) rfl]; rfl) (tgt := 102) (by decide) ?_
                      refine jr_iconst dX6_levelOf_102 kic_m1 ?_
                      exact jr_ireturn dX6_levelOf_103 ⟨Or.inr (Or.inl ⟨rfl, _, rfl⟩), _, _, rfl, h⟩
def wX6_isTold (G : jG) (l : Launch) (d : Nat) (I : jS) (L : jL) (Q : Option Value → jS → jL → Prop) : Prop := if (I 17 9) ≤ 0 then (Q (some (.int (0 : Int32))) I L) else (Q (some (.int (1 : Int32))) I L)
set_option maxRecDepth 100000 in
set_option maxHeartbeats 4000000 in
theorem wX6_isTold_ok {G : jG} {l : Launch} {d : Nat} {Q : Option Value → jS → jL → Prop} {I : jS} {L : jL} (h : wX6_isTold G l d I L Q) : cM G l mX6_isTold (d + 1) [.ref 17] I L Q := by
  rw [wX6_isTold] at h
  show jCall G l yX6_isTold cX6_isTold 1 (some .boolean) (d + 1) 0 0 _ (jKS, I, L, jR0) _
  refine jCall_of (n0 := 0) (ls := [some (.ref 17)]) (by decide +kernel) rfl (Nat.le_of_ble_eq_true rfl) (jQm_of ?_)
  refine jr_aload_n dX6_isTold_0 rfl rfl ?_
  refine jv_geti rfl ff_X6_38 ks_17 dX6_isTold_1 ?_
  refine jr_if_le dX6_isTold_4 (tgt := 11) (by decide) (fun c => ?_) (fun c => ?_)
  · rw [if_pos c] at h
    refine jr_iconst dX6_isTold_11 kic_0 ?_
    exact jr_ireturn dX6_isTold_12 ⟨Or.inr (Or.inr (Or.inr ⟨rfl, Or.inl rfl⟩)), _, _, rfl, h⟩
  · rw [if_neg c] at h
    refine jr_iconst dX6_isTold_7 kic_1 ?_
    refine jr_goto dX6_isTold_8 (tgt := 12) (by decide) ?_
    exact jr_ireturn dX6_isTold_12 ⟨Or.inr (Or.inr (Or.inr ⟨rfl, Or.inr rfl⟩)), _, _, rfl, h⟩
def wX6_name (G : jG) (l : Launch) (d : Nat) (x1 : Int32) (x2 : Int32) (x3 : Int32) (x4 : Int32) (x5 : Int32) (x6 : Int32) (I : jS) (L : jL) (Q : Option Value → jS → jL → Prop) : Prop := Q none (u2 (u2 (u2 (u2 (u2 (u2 I 22 0 x1) 22 1 x2) 22 2 x3) 22 3 x4) 22 4 x5) 22 5 x6) L
set_option maxRecDepth 100000 in
set_option maxHeartbeats 4000000 in
theorem wX6_name_ok {G : jG} {l : Launch} {d : Nat} {Q : Option Value → jS → jL → Prop} {x1 : Int32} {x2 : Int32} {x3 : Int32} {x4 : Int32} {x5 : Int32} {x6 : Int32} {I : jS} {L : jL} (h : wX6_name G l d x1 x2 x3 x4 x5 x6 I L Q) : cM G l mX6_name (d + 1) [.ref 17, .int x1, .int x2, .int x3, .int x4, .int x5, .int x6] I L Q := by
  rw [wX6_name] at h
  show jCall G l yX6_name cX6_name 7 (none) (d + 1) 0 0 _ (jKS, I, L, jR0) _
  refine jCall_of (n0 := 0) (ls := [some (.ref 17), some (.int x1), some (.int x2), some (.int x3), some (.int x4), some (.int x5), some (.int x6)]) (by decide +kernel) rfl (Nat.le_of_ble_eq_true rfl) (jQm_of ?_)
  refine jr_aload_n dX6_name_0 rfl rfl ?_
  refine jr_geta ff_X6_22 ks_17 rr_17_4 dX6_name_1 ?_
  refine jr_iconst dX6_name_4 kic_0 ?_
  refine jr_iload_n dX6_name_5 rfl rfl ?_
  refine jr_iastore nn_0 ks_22 dX6_name_6 vin_0_6 ?_
  refine jr_aload_n dX6_name_7 rfl rfl ?_
  refine jr_geta ff_X6_22 ks_17 rr_17_4 dX6_name_8 ?_
  refine jr_iconst dX6_name_11 kic_1 ?_
  refine jr_iload_n dX6_name_12 rfl rfl ?_
  refine jr_iastore nn_1 ks_22 dX6_name_13 vin_1_6 ?_
  refine jr_aload_n dX6_name_14 rfl rfl ?_
  refine jr_geta ff_X6_22 ks_17 rr_17_4 dX6_name_15 ?_
  refine jr_iconst dX6_name_18 kic_2 ?_
  refine jr_iload_n dX6_name_19 rfl rfl ?_
  refine jr_iastore nn_2 ks_22 dX6_name_20 vin_2_6 ?_
  refine jr_aload_n dX6_name_21 rfl rfl ?_
  refine jr_geta ff_X6_22 ks_17 rr_17_4 dX6_name_22 ?_
  refine jr_iconst dX6_name_25 kic_3 ?_
  refine jr_iload dX6_name_26 rfl ?_
  refine jr_iastore nn_3 ks_22 dX6_name_28 vin_3_6 ?_
  refine jr_aload_n dX6_name_29 rfl rfl ?_
  refine jr_geta ff_X6_22 ks_17 rr_17_4 dX6_name_30 ?_
  refine jr_iconst dX6_name_33 kic_4 ?_
  refine jr_iload dX6_name_34 rfl ?_
  refine jr_iastore nn_4 ks_22 dX6_name_36 vin_4_6 ?_
  refine jr_aload_n dX6_name_37 rfl rfl ?_
  refine jr_geta ff_X6_22 ks_17 rr_17_4 dX6_name_38 ?_
  refine jr_iconst dX6_name_41 kic_5 ?_
  refine jr_iload dX6_name_42 rfl ?_
  refine jr_iastore nn_5 ks_22 dX6_name_44 vin_5_6 ?_
  exact jr_return dX6_name_45 ⟨Or.inl ⟨rfl, rfl⟩, _, _, rfl, h⟩
def wX6_work_89 (G : jG) (l : Launch) (d : Nat) (k6 : Int32 → Int32 → Int32 → jS → jL → Prop) (Q : Option Value → jS → jL → Prop) (x1 : Int32) (x2 : Int32) (x3 : Int32) (t1 : Int32) (t2 : Int32) (I : jS) (L : jL) : Prop := vp_in t1 121 ∧ (k6 x1 (x2 + (1 : Int32)) (x3 + (1 : Int32)) (u2 I 21 t1.toNatClampNeg t2) L)
set_option maxRecDepth 100000 in
set_option maxHeartbeats 4000000 in
theorem wX6_work_89_ok {G : jG} {l : Launch} {d : Nat} {Q : Option Value → jS → jL → Prop} {k6 : Int32 → Int32 → Int32 → jS → jL → Prop} (hk6 : ∀ (x1 : Int32) (x2 : Int32) (x3 : Int32) (I : jS) (L : jL), k6 x1 x2 x3 I L → J G l yX6_work cX6_work 5 (d + 1) 0 0 6 [some (.ref 17), some (.int x1), some (.int x2), some (.int x3), none] [] (jKS, I, L, jR0) (jQm (some .int) Q)) : ∀ (x1 : Int32) (x2 : Int32) (x3 : Int32) (t1 : Int32) (t2 : Int32) (I : jS) (L : jL), wX6_work_89 G l d k6 Q x1 x2 x3 t1 t2 I L → J G l yX6_work cX6_work 5 (d + 1) 0 0 89 [some (.ref 17), some (.int x1), some (.int x2), some (.int x3), none] [.int t2, .int t1, .ref 21] (jKS, I, L, jR0) (jQm (some .int) Q) := by
  intro x1 x2 x3 t1 t2 I L h
  rw [wX6_work_89] at h
  obtain ⟨g1, h⟩ := h
  refine jr_iastore rfl ks_21 dX6_work_89 g1 ?_
  refine jr_iinc dX6_work_90 rfl (by rw [kic_1]) (by decide) rfl ?_
  refine jr_goto dX6_work_93 (tgt := 254) (by decide) ?_
  refine jr_iinc dX6_work_254 rfl (by rw [kic_1]) (by decide) rfl ?_
  refine jr_goto dX6_work_257 (tgt := 6) (by decide) ?_
  exact J.sub (hk6 _ _ _ _ _ h) (jsub_some (jsub_some (jsub_some (jsub_some (jsub_none jsub_nil)))))
def wX6_work_6 (G : jG) (l : Launch) (d : Nat) (Q : Option Value → jS → jL → Prop) : Nat → Int32 → Int32 → Int32 → jS → jL → Prop
  | 0, _, _, _, _, _ => False
  | n6 + 1, x1, x2, x3, I, L => if (I 17 9) ≤ x3 then (Q (some (.int (0 : Int32))) I L) else (if (I 17 9) ≤ x1 then (Q (some (.int (0 : Int32))) I L) else (if (121 : Int32) ≤ x1 then (Q (some (.int (0 : Int32))) I L) else (vp_in x1 121 ∧ (if (11000 : Int32) ≤ (I 20 x1.toNatClampNeg) then (if (1 : Int32) ≤ x2 then (if (I 20 x1.toNatClampNeg) = (12000 : Int32) then (vp_in (x2 - (1 : Int32)) 121 ∧ (Q (some (.int (I 21 ((x2 - (1 : Int32)).toNatClampNeg)))) I L)) else (if (I 20 x1.toNatClampNeg) < (13000 : Int32) then (if (I 20 x1.toNatClampNeg) = (11126 : Int32) then (vp_in (x2 - (1 : Int32)) 121 ∧ ((wX6_work_6 G l d Q n6) (x1 + (1 : Int32)) x2 (x3 + (1 : Int32)) (u2 I 21 ((x2 - (1 : Int32)).toNatClampNeg) (-(I 21 ((x2 - (1 : Int32)).toNatClampNeg)))) L)) else (if (I 20 x1.toNatClampNeg) = (11033 : Int32) then (vp_in (x2 - (1 : Int32)) 121 ∧ (if (I 21 ((x2 - (1 : Int32)).toNatClampNeg)) = 0 then ((wX6_work_6 G l d Q n6) (x1 + (1 : Int32)) x2 (x3 + (1 : Int32)) (u2 I 21 ((x2 - (1 : Int32)).toNatClampNeg) (1 : Int32)) L) else ((wX6_work_6 G l d Q n6) (x1 + (1 : Int32)) x2 (x3 + (1 : Int32)) (u2 I 21 ((x2 - (1 : Int32)).toNatClampNeg) (0 : Int32)) L))) else (if (2 : Int32) ≤ x2 then (vp_in ((x2 + (-1 : Int32)) - (1 : Int32)) 121 ∧ (vp_in (x2 + (-1 : Int32)) 121 ∧ (cI G l mX6_joined d [.int ((I 20 x1.toNatClampNeg) - (11000 : Int32)), .int (I 21 (((x2 + (-1 : Int32)) - (1 : Int32)).toNatClampNeg)), .int (I 21 ((x2 + (-1 : Int32)).toNatClampNeg))] I L (fun r4 I4 L4 => ((wX6_work_6 G l d Q n6) (x1 + (1 : Int32)) (x2 + (-1 : Int32)) (x3 + (1 : Int32)) (u2 I4 21 (((x2 + (-1 : Int32)) - (1 : Int32)).toNatClampNeg) r4) L4))))) else (Q (some (.int (0 : Int32))) I L)))) else (vp_in (x2 + (-1 : Int32)) 121 ∧ (if (I 21 ((x2 + (-1 : Int32)).toNatClampNeg)) = 0 then ((wX6_work_6 G l d Q n6) ((I 20 x1.toNatClampNeg) - (13000 : Int32)) (x2 + (-1 : Int32)) (x3 + (1 : Int32)) I L) else ((wX6_work_6 G l d Q n6) (x1 + (1 : Int32)) (x2 + (-1 : Int32)) (x3 + (1 : Int32)) I L))))) else (Q (some (.int (0 : Int32))) I L)) else (if x2 < (121 : Int32) then (if (10000 : Int32) ≤ (I 20 x1.toNatClampNeg) then (cI G l mX6_named d [.ref 17, .int ((I 20 x1.toNatClampNeg) - (10000 : Int32))] I L (fun r9 I9 L9 => (wX6_work_89 G l d (fun z0 z1 z2 I L => wX6_work_6 G l d Q n6 z0 z1 z2 I L) Q (x1 + (1 : Int32)) x2 x3 x2 r9 I9 L9))) else (wX6_work_89 G l d (fun z0 z1 z2 I L => wX6_work_6 G l d Q n6 z0 z1 z2 I L) Q (x1 + (1 : Int32)) x2 x3 x2 (I 20 x1.toNatClampNeg) I L)) else (Q (some (.int (0 : Int32))) I L))))))
set_option maxRecDepth 100000 in
set_option maxHeartbeats 4000000 in
theorem wX6_work_6_ok {G : jG} {l : Launch} {d : Nat} {Q : Option Value → jS → jL → Prop} : ∀ (n : Nat) (x1 : Int32) (x2 : Int32) (x3 : Int32) (I : jS) (L : jL), wX6_work_6 G l d Q n x1 x2 x3 I L → J G l yX6_work cX6_work 5 (d + 1) 0 0 6 [some (.ref 17), some (.int x1), some (.int x2), some (.int x3), none] [] (jKS, I, L, jR0) (jQm (some .int) Q) := by
  intro n
  induction n with
  | zero => intro x1 x2 x3 I L h; exact h.elim
  | succ n ih =>
    intro x1 x2 x3 I L h
    rw [wX6_work_6] at h
    refine jr_iload_n dX6_work_6 rfl rfl ?_
    refine jr_aload_n dX6_work_7 rfl rfl ?_
    refine jv_geti rfl ff_X6_38 ks_17 dX6_work_8 ?_
    refine jr_icmp_ge dX6_work_11 (tgt := 260) (by decide) (fun c => ?_) (fun c => ?_)
    · rw [if_pos c] at h
      refine jr_iconst dX6_work_260 kic_0 ?_
      exact jr_ireturn dX6_work_261 ⟨Or.inr (Or.inl ⟨rfl, _, rfl⟩), _, _, rfl, h⟩
    · rw [if_neg c] at h
      refine jr_iload_n dX6_work_14 rfl rfl ?_
      refine jr_aload_n dX6_work_15 rfl rfl ?_
      refine jv_geti rfl ff_X6_38 ks_17 dX6_work_16 ?_
      refine jr_icmp_ge dX6_work_19 (tgt := 260) (by decide) (fun c => ?_) (fun c => ?_)
      · rw [if_pos c] at h
        refine jr_iconst dX6_work_260 kic_0 ?_
        exact jr_ireturn dX6_work_261 ⟨Or.inr (Or.inl ⟨rfl, _, rfl⟩), _, _, rfl, h⟩
      · rw [if_neg c] at h
        refine jr_iload_n dX6_work_22 rfl rfl ?_
        refine jr_aload_n dX6_work_23 rfl rfl ?_
        refine jr_geta ff_X6_16 ks_17 rr_17_2 dX6_work_24 ?_
        refine jr_alen_i ks_20 kln_121 dX6_work_27 ?_
        refine jr_icmp_ge dX6_work_28 (tgt := 260) (by decide) (fun c => ?_) (fun c => ?_)
        · rw [if_pos c] at h
          refine jr_iconst dX6_work_260 kic_0 ?_
          exact jr_ireturn dX6_work_261 ⟨Or.inr (Or.inl ⟨rfl, _, rfl⟩), _, _, rfl, h⟩
        · rw [if_neg c] at h
          refine jr_aload_n dX6_work_31 rfl rfl ?_
          refine jr_geta ff_X6_16 ks_17 rr_17_2 dX6_work_32 ?_
          refine jr_iload_n dX6_work_35 rfl rfl ?_
          obtain ⟨g1, h⟩ := h
          refine jv_iaload rfl rfl ks_20 dX6_work_36 g1 ?_
          refine jr_istore dX6_work_37 (by decide) rfl ?_
          refine jr_iinc dX6_work_39 rfl (by rw [kic_1]) (by decide) rfl ?_
          refine jr_iload dX6_work_42 rfl ?_
          refine jr_sipush dX6_work_44 ksp_11000 ?_
          refine jr_icmp_ge dX6_work_47 (tgt := 96) (by decide) (fun c => ?_) (fun c => ?_)
          · rw [if_pos c] at h
            refine jr_iload_n dX6_work_96 rfl rfl ?_
            refine jr_iconst dX6_work_97 kic_1 ?_
            refine jr_icmp_ge dX6_work_98 (tgt := 103) (by decide) (fun c => ?_) (fun c => ?_)
            · rw [if_pos c] at h
              refine jr_iload dX6_work_103 rfl ?_
              refine jr_sipush dX6_work_105 ksp_12000 ?_
              refine jr_icmp_ne dX6_work_108 (tgt := 120) (by decide) (fun c => ?_) (fun c => ?_)
              · rw [if_neg c] at h
                refine jr_iload dX6_work_120 rfl ?_
                refine jr_sipush dX6_work_122 ksp_13000 ?_
                refine jr_icmp_lt dX6_work_125 (tgt := 150) (by decide) (fun c => ?_) (fun c => ?_)
                · rw [if_pos c] at h
                  refine jr_iload dX6_work_150 rfl ?_
                  refine jr_sipush dX6_work_152 ksp_11126 ?_
                  refine jr_icmp_ne dX6_work_155 (tgt := 178) (by decide) (fun c => ?_) (fun c => ?_)
                  · rw [if_neg c] at h
                    refine jr_iload dX6_work_178 rfl ?_
                    refine jr_sipush dX6_work_180 ksp_11033 ?_
                    refine jr_icmp_ne dX6_work_183 (tgt := 213) (by decide) (fun c => ?_) (fun c => ?_)
                    · rw [if_neg c] at h
                      refine jr_iload_n dX6_work_213 rfl rfl ?_
                      refine jr_iconst dX6_work_214 kic_2 ?_
                      refine jr_icmp_ge dX6_work_215 (tgt := 220) (by decide) (fun c => ?_) (fun c => ?_)
                      · rw [if_pos c] at h
                        refine jr_iinc dX6_work_220 rfl (by rw [kic_m1]) (by decide) rfl ?_
                        refine jr_aload_n dX6_work_223 rfl rfl ?_
                        refine jr_geta ff_X6_19 ks_17 rr_17_3 dX6_work_224 ?_
                        refine jr_iload_n dX6_work_227 rfl rfl ?_
                        refine jr_iconst dX6_work_228 kic_1 ?_
                        refine jr_isub dX6_work_229 ?_
                        refine jr_iload dX6_work_230 rfl ?_
                        refine jr_sipush dX6_work_232 ksp_11000 ?_
                        refine jr_isub dX6_work_235 ?_
                        refine jr_aload_n dX6_work_236 rfl rfl ?_
                        refine jr_geta ff_X6_19 ks_17 rr_17_3 dX6_work_237 ?_
                        refine jr_iload_n dX6_work_240 rfl rfl ?_
                        refine jr_iconst dX6_work_241 kic_1 ?_
                        refine jr_isub dX6_work_242 ?_
                        obtain ⟨g2, h⟩ := h
                        refine jv_iaload rfl rfl ks_21 dX6_work_243 g2 ?_
                        refine jr_aload_n dX6_work_244 rfl rfl ?_
                        refine jr_geta ff_X6_19 ks_17 rr_17_3 dX6_work_245 ?_
                        refine jr_iload_n dX6_work_248 rfl rfl ?_
                        obtain ⟨g3, h⟩ := h
                        refine jv_iaload rfl rfl ks_21 dX6_work_249 g3 ?_
                        refine jr_callS (mc2 := 0) (mc := 0) (ms2 := 0) (ms := 0) vm_X6_86 (av := [.int ((I 20 x1.toNatClampNeg) - (11000 : Int32)), .int (I 21 (((x2 + (-1 : Int32)) - (1 : Int32)).toNatClampNeg)), .int (I 21 ((x2 + (-1 : Int32)).toNatClampNeg))]) (st := [.int ((x2 + (-1 : Int32)) - (1 : Int32)), .ref 21]) rfl rfl (Nat.le_of_ble_eq_true rfl) dX6_work_250 (cI_use (M := (yX6_joined, cX6_joined, 3, some .int)) h ?_)
                        intro r4 I4 L4 h
                        refine jr_iastore rfl ks_21 dX6_work_253 g2 ?_
                        refine jr_iinc dX6_work_254 rfl (by rw [kic_1]) (by decide) rfl ?_
                        refine jr_goto dX6_work_257 (tgt := 6) (by decide) ?_
                        exact J.sub (ih _ _ _ _ _ h) (jsub_some (jsub_some (jsub_some (jsub_some (jsub_none jsub_nil)))))
                      · rw [if_neg c] at h
                        refine jr_iconst dX6_work_218 kic_0 ?_
                        exact jr_ireturn dX6_work_219 ⟨Or.inr (Or.inl ⟨rfl, _, rfl⟩), _, _, rfl, h⟩
                    · rw [if_pos c] at h
                      refine jr_aload_n dX6_work_186 rfl rfl ?_
                      refine jr_geta ff_X6_19 ks_17 rr_17_3 dX6_work_187 ?_
                      refine jr_iload_n dX6_work_190 rfl rfl ?_
                      refine jr_iconst dX6_work_191 kic_1 ?_
                      refine jr_isub dX6_work_192 ?_
                      refine jr_aload_n dX6_work_193 rfl rfl ?_
                      refine jr_geta ff_X6_19 ks_17 rr_17_3 dX6_work_194 ?_
                      refine jr_iload_n dX6_work_197 rfl rfl ?_
                      refine jr_iconst dX6_work_198 kic_1 ?_
                      refine jr_isub dX6_work_199 ?_
                      obtain ⟨g5, h⟩ := h
                      refine jv_iaload rfl rfl ks_21 dX6_work_200 g5 ?_
                      refine jr_if_ne dX6_work_201 (tgt := 208) (by decide) (fun c => ?_) (fun c => ?_)
                      · rw [if_neg c] at h
                        refine jr_iconst dX6_work_208 kic_0 ?_
                        refine jr_iastore rfl ks_21 dX6_work_209 g5 ?_
                        refine jr_goto dX6_work_210 (tgt := 254) (by decide) ?_
                        refine jr_iinc dX6_work_254 rfl (by rw [kic_1]) (by decide) rfl ?_
                        refine jr_goto dX6_work_257 (tgt := 6) (by decide) ?_
                        exact J.sub (ih _ _ _ _ _ h) (jsub_some (jsub_some (jsub_some (jsub_some (jsub_none jsub_nil)))))
                      · rw [if_pos c] at h
                        refine jr_iconst dX6_work_204 kic_1 ?_
                        refine jr_goto dX6_work_205 (tgt := 209) (by decide) ?_
                        refine jr_iastore rfl ks_21 dX6_work_209 g5 ?_
                        refine jr_goto dX6_work_210 (tgt := 254) (by decide) ?_
                        refine jr_iinc dX6_work_254 rfl (by rw [kic_1]) (by decide) rfl ?_
                        refine jr_goto dX6_work_257 (tgt := 6) (by decide) ?_
                        exact J.sub (ih _ _ _ _ _ h) (jsub_some (jsub_some (jsub_some (jsub_some (jsub_none jsub_nil)))))
                  · rw [if_pos c] at h
                    refine jr_aload_n dX6_work_158 rfl rfl ?_
                    refine jr_geta ff_X6_19 ks_17 rr_17_3 dX6_work_159 ?_
                    refine jr_iload_n dX6_work_162 rfl rfl ?_
                    refine jr_iconst dX6_work_163 kic_1 ?_
                    refine jr_isub dX6_work_164 ?_
                    refine jr_aload_n dX6_work_165 rfl rfl ?_
                    refine jr_geta ff_X6_19 ks_17 rr_17_3 dX6_work_166 ?_
                    refine jr_iload_n dX6_work_169 rfl rfl ?_
                    refine jr_iconst dX6_work_170 kic_1 ?_
                    refine jr_isub dX6_work_171 ?_
                    obtain ⟨g6, h⟩ := h
                    refine jv_iaload rfl rfl ks_21 dX6_work_172 g6 ?_
                    refine jr_ineg dX6_work_173 ?_
                    refine jr_iastore rfl ks_21 dX6_work_174 g6 ?_
                    refine jr_goto dX6_work_175 (tgt := 254) (by decide) ?_
                    refine jr_iinc dX6_work_254 rfl (by rw [kic_1]) (by decide) rfl ?_
                    refine jr_goto dX6_work_257 (tgt := 6) (by decide) ?_
                    exact J.sub (ih _ _ _ _ _ h) (jsub_some (jsub_some (jsub_some (jsub_some (jsub_none jsub_nil)))))
                · rw [if_neg c] at h
                  refine jr_iinc dX6_work_128 rfl (by rw [kic_m1]) (by decide) rfl ?_
                  refine jr_aload_n dX6_work_131 rfl rfl ?_
                  refine jr_geta ff_X6_19 ks_17 rr_17_3 dX6_work_132 ?_
                  refine jr_iload_n dX6_work_135 rfl rfl ?_
                  obtain ⟨g7, h⟩ := h
                  refine jv_iaload rfl rfl ks_21 dX6_work_136 g7 ?_
                  refine jr_if_ne dX6_work_137 (tgt := 254) (by decide) (fun c => ?_) (fun c => ?_)
                  · rw [if_neg c] at h
                    refine jr_iinc dX6_work_254 rfl (by rw [kic_1]) (by decide) rfl ?_
                    refine jr_goto dX6_work_257 (tgt := 6) (by decide) ?_
                    exact J.sub (ih _ _ _ _ _ h) (jsub_some (jsub_some (jsub_some (jsub_some (jsub_none jsub_nil)))))
                  · rw [if_pos c] at h
                    refine jr_iload dX6_work_140 rfl ?_
                    refine jr_sipush dX6_work_142 ksp_13000 ?_
                    refine jr_isub dX6_work_145 ?_
                    refine jr_istore_n dX6_work_146 rfl (by decide) rfl ?_
                    refine jr_goto dX6_work_147 (tgt := 254) (by decide) ?_
                    refine jr_iinc dX6_work_254 rfl (by rw [kic_1]) (by decide) rfl ?_
                    refine jr_goto dX6_work_257 (tgt := 6) (by decide) ?_
                    exact J.sub (ih _ _ _ _ _ h) (jsub_some (jsub_some (jsub_some (jsub_some (jsub_none jsub_nil)))))
              · rw [if_pos c] at h
                refine jr_aload_n dX6_work_111 rfl rfl ?_
                refine jr_geta ff_X6_19 ks_17 rr_17_3 dX6_work_112 ?_
                refine jr_iload_n dX6_work_115 rfl rfl ?_
                refine jr_iconst dX6_work_116 kic_1 ?_
                refine jr_isub dX6_work_117 ?_
                obtain ⟨g8, h⟩ := h
                refine jv_iaload rfl rfl ks_21 dX6_work_118 g8 ?_
                exact jr_ireturn dX6_work_119 ⟨Or.inr (Or.inl ⟨rfl, _, rfl⟩), _, _, rfl, h⟩
            · rw [if_neg c] at h
              refine jr_iconst dX6_work_101 kic_0 ?_
              exact jr_ireturn dX6_work_102 ⟨Or.inr (Or.inl ⟨rfl, _, rfl⟩), _, _, rfl, h⟩
          · rw [if_neg c] at h
            refine jr_iload_n dX6_work_50 rfl rfl ?_
            refine jr_aload_n dX6_work_51 rfl rfl ?_
            refine jr_geta ff_X6_19 ks_17 rr_17_3 dX6_work_52 ?_
            refine jr_alen_i ks_21 kln_121 dX6_work_55 ?_
            refine jr_icmp_lt dX6_work_56 (tgt := 61) (by decide) (fun c => ?_) (fun c => ?_)
            · rw [if_pos c] at h
              refine jr_aload_n dX6_work_61 rfl rfl ?_
              refine jr_geta ff_X6_19 ks_17 rr_17_3 dX6_work_62 ?_
              refine jr_iload_n dX6_work_65 rfl rfl ?_
              refine jr_iload dX6_work_66 rfl ?_
              refine jr_sipush dX6_work_68 ksp_10000 ?_
              refine jr_icmp_ge dX6_work_71 (tgt := 79) (by decide) (fun c => ?_) (fun c => ?_)
              · rw [if_pos c] at h
                refine jr_aload_n dX6_work_79 rfl rfl ?_
                refine jr_iload dX6_work_80 rfl ?_
                refine jr_sipush dX6_work_82 ksp_10000 ?_
                refine jr_isub dX6_work_85 ?_
                refine jr_callV (mc2 := 0) (mc := 0) (ms2 := 0) (ms := 0) vm_X6_83 (av := [.int ((I 20 x1.toNatClampNeg) - (10000 : Int32))]) (st := [.int x2, .ref 21]) rfl rfl ks_17 (by decide) rfl (Nat.le_of_ble_eq_true rfl) dX6_work_86 (cI_use (M := (yX6_named, cX6_named, 2, some .int)) h ?_)
                intro r9 I9 L9 h
                exact J.sub (wX6_work_89_ok  ih _ _ _ _ _ _ _ h) (jsub_some (jsub_some (jsub_some (jsub_some (jsub_none jsub_nil)))))
              · rw [if_neg c] at h
                refine jr_iload dX6_work_74 rfl ?_
                refine jr_goto dX6_work_76 (tgt := 89) (by decide) ?_
                exact J.sub (wX6_work_89_ok  ih _ _ _ _ _ _ _ h) (jsub_some (jsub_some (jsub_some (jsub_some (jsub_none jsub_nil)))))
            · rw [if_neg c] at h
              refine jr_iconst dX6_work_59 kic_0 ?_
              exact jr_ireturn dX6_work_60 ⟨Or.inr (Or.inl ⟨rfl, _, rfl⟩), _, _, rfl, h⟩
def wX6_work (G : jG) (l : Launch) (d : Nat) (I : jS) (L : jL) (Q : Option Value → jS → jL → Prop) : Prop := ∃ e6 : Nat, wX6_work_6 G l d Q e6 (0 : Int32) (0 : Int32) (0 : Int32) I L
set_option maxRecDepth 100000 in
set_option maxHeartbeats 4000000 in
theorem wX6_work_ok {G : jG} {l : Launch} {d : Nat} {Q : Option Value → jS → jL → Prop} {I : jS} {L : jL} (h : wX6_work G l d I L Q) : cM G l mX6_work (d + 1) [.ref 17] I L Q := by
  rw [wX6_work] at h
  show jCall G l yX6_work cX6_work 5 (some .int) (d + 1) 0 0 _ (jKS, I, L, jR0) _
  refine jCall_of (n0 := 4) (ls := [some (.ref 17), none, none, none, none]) (by decide +kernel) rfl (Nat.le_of_ble_eq_true rfl) (jQm_of ?_)
  refine jr_iconst dX6_work_0 kic_0 ?_
  refine jr_istore_n dX6_work_1 rfl (by decide) rfl ?_
  refine jr_iconst dX6_work_2 kic_0 ?_
  refine jr_istore_n dX6_work_3 rfl (by decide) rfl ?_
  refine jr_iconst dX6_work_4 kic_0 ?_
  refine jr_istore_n dX6_work_5 rfl (by decide) rfl ?_
  obtain ⟨e6, h⟩ := h
  exact J.sub (wX6_work_6_ok  e6 _ _ _ _ _ h) (jsub_some (jsub_some (jsub_some (jsub_some (jsub_none jsub_nil)))))
def wX6_named (G : jG) (l : Launch) (d : Nat) (x1 : Int32) (I : jS) (L : jL) (Q : Option Value → jS → jL → Prop) : Prop := if x1 < 0 then (Q (some (.int (0 : Int32))) I L) else (if (6 : Int32) ≤ x1 then (Q (some (.int (0 : Int32))) I L) else (vp_in x1 6 ∧ (Q (some (.int (I 22 x1.toNatClampNeg))) I L)))
set_option maxRecDepth 100000 in
set_option maxHeartbeats 4000000 in
theorem wX6_named_ok {G : jG} {l : Launch} {d : Nat} {Q : Option Value → jS → jL → Prop} {x1 : Int32} {I : jS} {L : jL} (h : wX6_named G l d x1 I L Q) : cM G l mX6_named (d + 1) [.ref 17, .int x1] I L Q := by
  rw [wX6_named] at h
  show jCall G l yX6_named cX6_named 2 (some .int) (d + 1) 0 0 _ (jKS, I, L, jR0) _
  refine jCall_of (n0 := 0) (ls := [some (.ref 17), some (.int x1)]) (by decide +kernel) rfl (Nat.le_of_ble_eq_true rfl) (jQm_of ?_)
  refine jr_iload_n dX6_named_0 rfl rfl ?_
  refine jr_if_lt dX6_named_1 (tgt := 19) (by decide) (fun c => ?_) (fun c => ?_)
  · rw [if_pos c] at h
    refine jr_iconst dX6_named_19 kic_0 ?_
    exact jr_ireturn dX6_named_20 ⟨Or.inr (Or.inl ⟨rfl, _, rfl⟩), _, _, rfl, h⟩
  · rw [if_neg c] at h
    refine jr_iload_n dX6_named_4 rfl rfl ?_
    refine jr_bipush dX6_named_5 kbp_6 ?_
    refine jr_icmp_ge dX6_named_7 (tgt := 19) (by decide) (fun c => ?_) (fun c => ?_)
    · rw [if_pos c] at h
      refine jr_iconst dX6_named_19 kic_0 ?_
      exact jr_ireturn dX6_named_20 ⟨Or.inr (Or.inl ⟨rfl, _, rfl⟩), _, _, rfl, h⟩
    · rw [if_neg c] at h
      refine jr_aload_n dX6_named_10 rfl rfl ?_
      refine jr_geta ff_X6_22 ks_17 rr_17_4 dX6_named_11 ?_
      refine jr_iload_n dX6_named_14 rfl rfl ?_
      obtain ⟨g1, h⟩ := h
      refine jv_iaload rfl rfl ks_22 dX6_named_15 g1 ?_
      refine jr_goto dX6_named_16 (tgt := 20) (by decide) ?_
      exact jr_ireturn dX6_named_20 ⟨Or.inr (Or.inl ⟨rfl, _, rfl⟩), _, _, rfl, h⟩
def wX6_joined (G : jG) (l : Launch) (d : Nat) (x0 : Int32) (x1 : Int32) (x2 : Int32) (I : jS) (L : jL) (Q : Option Value → jS → jL → Prop) : Prop := if x0 = (37 : Int32) then (if x2 = 0 then (Q (some (.int (0 : Int32))) I L) else (¬ x2 = 0 ∧ (Q (some (.int (x1 - x1 / x2 * x2))) I L))) else (if x0 = (38 : Int32) then (if x1 = 0 then (Q (some (.int (0 : Int32))) I L) else (if x2 = 0 then (Q (some (.int (0 : Int32))) I L) else (Q (some (.int (1 : Int32))) I L))) else (if x0 = (42 : Int32) then (Q (some (.int (x1 * x2))) I L) else (if x0 = (43 : Int32) then (Q (some (.int (x1 + x2))) I L) else (if x0 = (45 : Int32) then (Q (some (.int (x1 - x2))) I L) else (if x0 = (47 : Int32) then (if x2 = 0 then (Q (some (.int (0 : Int32))) I L) else (¬ x2 = 0 ∧ (Q (some (.int (x1 / x2))) I L))) else (if x0 = (60 : Int32) then (if x2 ≤ x1 then (Q (some (.int (0 : Int32))) I L) else (Q (some (.int (1 : Int32))) I L)) else (if x0 = (61 : Int32) then (if x1 = x2 then (Q (some (.int (1 : Int32))) I L) else (Q (some (.int (0 : Int32))) I L)) else (if x0 = (62 : Int32) then (if x1 ≤ x2 then (Q (some (.int (0 : Int32))) I L) else (Q (some (.int (1 : Int32))) I L)) else (if x0 = (124 : Int32) then (if x1 = 0 then (if x2 = 0 then (Q (some (.int (0 : Int32))) I L) else (Q (some (.int (1 : Int32))) I L)) else (Q (some (.int (1 : Int32))) I L)) else (Q (some (.int (0 : Int32))) I L))))))))))
set_option maxRecDepth 100000 in
set_option maxHeartbeats 4000000 in
theorem wX6_joined_ok {G : jG} {l : Launch} {d : Nat} {Q : Option Value → jS → jL → Prop} {x0 : Int32} {x1 : Int32} {x2 : Int32} {I : jS} {L : jL} (h : wX6_joined G l d x0 x1 x2 I L Q) : cM G l mX6_joined (d + 1) [.int x0, .int x1, .int x2] I L Q := by
  rw [wX6_joined] at h
  show jCall G l yX6_joined cX6_joined 3 (some .int) (d + 1) 0 0 _ (jKS, I, L, jR0) _
  refine jCall_of (n0 := 0) (ls := [some (.int x0), some (.int x1), some (.int x2)]) (by decide +kernel) rfl (Nat.le_of_ble_eq_true rfl) (jQm_of ?_)
  refine jr_iload_n dX6_joined_0 rfl rfl ?_
  by_cases c : x0 = (37 : Int32)
  · rw [if_pos c] at h
    refine jr_lookup dX6_joined_1 (by decide) (off := 176) (jlk c (by decide)) (tgt := 177) (by decide) ?_
    refine jr_iload_n dX6_joined_177 rfl rfl ?_
    refine jr_if_ne dX6_joined_178 (tgt := 185) (by decide) (fun c => ?_) (fun c => ?_)
    · rw [if_neg c] at h
      refine jr_iload_n dX6_joined_185 rfl rfl ?_
      refine jr_iload_n dX6_joined_186 rfl rfl ?_
      obtain ⟨g1, h⟩ := h
      refine jr_irem dX6_joined_187 g1 ?_
      exact jr_ireturn dX6_joined_188 ⟨Or.inr (Or.inl ⟨rfl, _, rfl⟩), _, _, rfl, h⟩
    · rw [if_pos c] at h
      refine jr_iconst dX6_joined_181 kic_0 ?_
      refine jr_goto dX6_joined_182 (tgt := 188) (by decide) ?_
      exact jr_ireturn dX6_joined_188 ⟨Or.inr (Or.inl ⟨rfl, _, rfl⟩), _, _, rfl, h⟩
  · rw [if_neg c] at h
    have c37 := c
    by_cases c : x0 = (38 : Int32)
    · rw [if_pos c] at h
      refine jr_lookup dX6_joined_1 (by decide) (off := 105) (jlk c (by decide)) (tgt := 106) (by decide) ?_
      refine jr_iload_n dX6_joined_106 rfl rfl ?_
      refine jr_if_eq dX6_joined_107 (tgt := 118) (by decide) (fun c => ?_) (fun c => ?_)
      · rw [if_pos c] at h
        refine jr_iconst dX6_joined_118 kic_0 ?_
        exact jr_ireturn dX6_joined_119 ⟨Or.inr (Or.inl ⟨rfl, _, rfl⟩), _, _, rfl, h⟩
      · rw [if_neg c] at h
        refine jr_iload_n dX6_joined_110 rfl rfl ?_
        refine jr_if_eq dX6_joined_111 (tgt := 118) (by decide) (fun c => ?_) (fun c => ?_)
        · rw [if_pos c] at h
          refine jr_iconst dX6_joined_118 kic_0 ?_
          exact jr_ireturn dX6_joined_119 ⟨Or.inr (Or.inl ⟨rfl, _, rfl⟩), _, _, rfl, h⟩
        · rw [if_neg c] at h
          refine jr_iconst dX6_joined_114 kic_1 ?_
          refine jr_goto dX6_joined_115 (tgt := 119) (by decide) ?_
          exact jr_ireturn dX6_joined_119 ⟨Or.inr (Or.inl ⟨rfl, _, rfl⟩), _, _, rfl, h⟩
    · rw [if_neg c] at h
      have c38 := c
      by_cases c : x0 = (42 : Int32)
      · rw [if_pos c] at h
        refine jr_lookup dX6_joined_1 (by decide) (off := 160) (jlk c (by decide)) (tgt := 161) (by decide) ?_
        refine jr_iload_n dX6_joined_161 rfl rfl ?_
        refine jr_iload_n dX6_joined_162 rfl rfl ?_
        refine jr_imul dX6_joined_163 ?_
        exact jr_ireturn dX6_joined_164 ⟨Or.inr (Or.inl ⟨rfl, _, rfl⟩), _, _, rfl, h⟩
      · rw [if_neg c] at h
        have c42 := c
        by_cases c : x0 = (43 : Int32)
        · rw [if_pos c] at h
          refine jr_lookup dX6_joined_1 (by decide) (off := 152) (jlk c (by decide)) (tgt := 153) (by decide) ?_
          refine jr_iload_n dX6_joined_153 rfl rfl ?_
          refine jr_iload_n dX6_joined_154 rfl rfl ?_
          refine jr_iadd dX6_joined_155 ?_
          exact jr_ireturn dX6_joined_156 ⟨Or.inr (Or.inl ⟨rfl, _, rfl⟩), _, _, rfl, h⟩
        · rw [if_neg c] at h
          have c43 := c
          by_cases c : x0 = (45 : Int32)
          · rw [if_pos c] at h
            refine jr_lookup dX6_joined_1 (by decide) (off := 156) (jlk c (by decide)) (tgt := 157) (by decide) ?_
            refine jr_iload_n dX6_joined_157 rfl rfl ?_
            refine jr_iload_n dX6_joined_158 rfl rfl ?_
            refine jr_isub dX6_joined_159 ?_
            exact jr_ireturn dX6_joined_160 ⟨Or.inr (Or.inl ⟨rfl, _, rfl⟩), _, _, rfl, h⟩
          · rw [if_neg c] at h
            have c45 := c
            by_cases c : x0 = (47 : Int32)
            · rw [if_pos c] at h
              refine jr_lookup dX6_joined_1 (by decide) (off := 164) (jlk c (by decide)) (tgt := 165) (by decide) ?_
              refine jr_iload_n dX6_joined_165 rfl rfl ?_
              refine jr_if_ne dX6_joined_166 (tgt := 173) (by decide) (fun c => ?_) (fun c => ?_)
              · rw [if_neg c] at h
                refine jr_iload_n dX6_joined_173 rfl rfl ?_
                refine jr_iload_n dX6_joined_174 rfl rfl ?_
                obtain ⟨g2, h⟩ := h
                refine jr_idiv dX6_joined_175 g2 ?_
                exact jr_ireturn dX6_joined_176 ⟨Or.inr (Or.inl ⟨rfl, _, rfl⟩), _, _, rfl, h⟩
              · rw [if_pos c] at h
                refine jr_iconst dX6_joined_169 kic_0 ?_
                refine jr_goto dX6_joined_170 (tgt := 176) (by decide) ?_
                exact jr_ireturn dX6_joined_176 ⟨Or.inr (Or.inl ⟨rfl, _, rfl⟩), _, _, rfl, h⟩
            · rw [if_neg c] at h
              have c47 := c
              by_cases c : x0 = (60 : Int32)
              · rw [if_pos c] at h
                refine jr_lookup dX6_joined_1 (by decide) (off := 119) (jlk c (by decide)) (tgt := 120) (by decide) ?_
                refine jr_iload_n dX6_joined_120 rfl rfl ?_
                refine jr_iload_n dX6_joined_121 rfl rfl ?_
                refine jr_icmp_ge dX6_joined_122 (tgt := 129) (by decide) (fun c => ?_) (fun c => ?_)
                · rw [if_pos c] at h
                  refine jr_iconst dX6_joined_129 kic_0 ?_
                  exact jr_ireturn dX6_joined_130 ⟨Or.inr (Or.inl ⟨rfl, _, rfl⟩), _, _, rfl, h⟩
                · rw [if_neg c] at h
                  refine jr_iconst dX6_joined_125 kic_1 ?_
                  refine jr_goto dX6_joined_126 (tgt := 130) (by decide) ?_
                  exact jr_ireturn dX6_joined_130 ⟨Or.inr (Or.inl ⟨rfl, _, rfl⟩), _, _, rfl, h⟩
              · rw [if_neg c] at h
                have c60 := c
                by_cases c : x0 = (61 : Int32)
                · rw [if_pos c] at h
                  refine jr_lookup dX6_joined_1 (by decide) (off := 130) (jlk c (by decide)) (tgt := 131) (by decide) ?_
                  refine jr_iload_n dX6_joined_131 rfl rfl ?_
                  refine jr_iload_n dX6_joined_132 rfl rfl ?_
                  refine jr_icmp_ne dX6_joined_133 (tgt := 140) (by decide) (fun c => ?_) (fun c => ?_)
                  · rw [if_neg c] at h
                    refine jr_iconst dX6_joined_140 kic_0 ?_
                    exact jr_ireturn dX6_joined_141 ⟨Or.inr (Or.inl ⟨rfl, _, rfl⟩), _, _, rfl, h⟩
                  · rw [if_pos c] at h
                    refine jr_iconst dX6_joined_136 kic_1 ?_
                    refine jr_goto dX6_joined_137 (tgt := 141) (by decide) ?_
                    exact jr_ireturn dX6_joined_141 ⟨Or.inr (Or.inl ⟨rfl, _, rfl⟩), _, _, rfl, h⟩
                · rw [if_neg c] at h
                  have c61 := c
                  by_cases c : x0 = (62 : Int32)
                  · rw [if_pos c] at h
                    refine jr_lookup dX6_joined_1 (by decide) (off := 141) (jlk c (by decide)) (tgt := 142) (by decide) ?_
                    refine jr_iload_n dX6_joined_142 rfl rfl ?_
                    refine jr_iload_n dX6_joined_143 rfl rfl ?_
                    refine jr_icmp_le dX6_joined_144 (tgt := 151) (by decide) (fun c => ?_) (fun c => ?_)
                    · rw [if_pos c] at h
                      refine jr_iconst dX6_joined_151 kic_0 ?_
                      exact jr_ireturn dX6_joined_152 ⟨Or.inr (Or.inl ⟨rfl, _, rfl⟩), _, _, rfl, h⟩
                    · rw [if_neg c] at h
                      refine jr_iconst dX6_joined_147 kic_1 ?_
                      refine jr_goto dX6_joined_148 (tgt := 152) (by decide) ?_
                      exact jr_ireturn dX6_joined_152 ⟨Or.inr (Or.inl ⟨rfl, _, rfl⟩), _, _, rfl, h⟩
                  · rw [if_neg c] at h
                    have c62 := c
                    by_cases c : x0 = (124 : Int32)
                    · rw [if_pos c] at h
                      refine jr_lookup dX6_joined_1 (by decide) (off := 91) (jlk c (by decide)) (tgt := 92) (by decide) ?_
                      refine jr_iload_n dX6_joined_92 rfl rfl ?_
                      refine jr_if_ne dX6_joined_93 (tgt := 100) (by decide) (fun c => ?_) (fun c => ?_)
                      · rw [if_neg c] at h
                        refine jr_iconst dX6_joined_100 kic_1 ?_
                        refine jr_goto dX6_joined_101 (tgt := 105) (by decide) ?_
                        exact jr_ireturn dX6_joined_105 ⟨Or.inr (Or.inl ⟨rfl, _, rfl⟩), _, _, rfl, h⟩
                      · rw [if_pos c] at h
                        refine jr_iload_n dX6_joined_96 rfl rfl ?_
                        refine jr_if_eq dX6_joined_97 (tgt := 104) (by decide) (fun c => ?_) (fun c => ?_)
                        · rw [if_pos c] at h
                          refine jr_iconst dX6_joined_104 kic_0 ?_
                          exact jr_ireturn dX6_joined_105 ⟨Or.inr (Or.inl ⟨rfl, _, rfl⟩), _, _, rfl, h⟩
                        · rw [if_neg c] at h
                          refine jr_iconst dX6_joined_100 kic_1 ?_
                          refine jr_goto dX6_joined_101 (tgt := 105) (by decide) ?_
                          exact jr_ireturn dX6_joined_105 ⟨Or.inr (Or.inl ⟨rfl, _, rfl⟩), _, _, rfl, h⟩
                    · rw [if_neg c] at h
                      have c124 := c
                      refine jr_lookup dX6_joined_1 (by decide) (off := 188) (by rw [lv_osw c37 (a := 37) rfl, lv_osw c38 (a := 38) rfl, lv_osw c42 (a := 42) rfl, lv_osw c43 (a := 43) rfl, lv_osw c45 (a := 45) rfl, lv_osw c47 (a := 47) rfl, lv_osw c60 (a := 60) rfl, lv_osw c61 (a := 61) rfl, lv_osw c62 (a := 62) rfl, lv_osw c124 (a := 124) rfl]; rfl) (tgt := 189) (by decide) ?_
                      refine jr_iconst dX6_joined_189 kic_0 ?_
                      exact jr_ireturn dX6_joined_190 ⟨Or.inr (Or.inl ⟨rfl, _, rfl⟩), _, _, rfl, h⟩

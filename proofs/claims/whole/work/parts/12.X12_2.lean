def wX12_overByRule_60 (G : jG) (l : Launch) (d : Nat) (k5 : Int32 → Int32 → Int32 → Int32 → jS → jL → Prop) (k20 : Int32 → Int32 → Int32 → Int32 → Int32 → Int32 → jS → jL → Prop) (Q : Option Value → jS → jL → Prop) (x1 : Int32) (x2 : Int32) (x3 : Int32) (x4 : Int32) (x6 : Int32) (I : jS) (L : jL) : Prop := k20 x1 x2 x3 x4 x6 (x6 + (1 : Int32)) I L
set_option maxRecDepth 100000 in
set_option maxHeartbeats 4000000 in
theorem wX12_overByRule_60_ok {G : jG} {l : Launch} {d : Nat} {Q : Option Value → jS → jL → Prop} {k5 : Int32 → Int32 → Int32 → Int32 → jS → jL → Prop} {k20 : Int32 → Int32 → Int32 → Int32 → Int32 → Int32 → jS → jL → Prop} (hk5 : ∀ (x1 : Int32) (x2 : Int32) (x3 : Int32) (x4 : Int32) (I : jS) (L : jL), k5 x1 x2 x3 x4 I L → J G l yX12_overByRule cX12_overByRule 7 (d + 1) 0 0 5 [some (.ref 71), some (.int x1), some (.int x2), some (.int x3), some (.int x4), none, none] [] (jKS, I, L, jR0) (jQm (some .int) Q)) (hk20 : ∀ (x1 : Int32) (x2 : Int32) (x3 : Int32) (x4 : Int32) (x5 : Int32) (x6 : Int32) (I : jS) (L : jL), k20 x1 x2 x3 x4 x5 x6 I L → J G l yX12_overByRule cX12_overByRule 7 (d + 1) 0 0 20 [some (.ref 71), some (.int x1), some (.int x2), some (.int x3), some (.int x4), some (.int x5), some (.int x6)] [] (jKS, I, L, jR0) (jQm (some .int) Q)) : ∀ (x1 : Int32) (x2 : Int32) (x3 : Int32) (x4 : Int32) (x6 : Int32) (I : jS) (L : jL), wX12_overByRule_60 G l d k5 k20 Q x1 x2 x3 x4 x6 I L → J G l yX12_overByRule cX12_overByRule 7 (d + 1) 0 0 60 [some (.ref 71), some (.int x1), some (.int x2), some (.int x3), some (.int x4), none, some (.int x6)] [] (jKS, I, L, jR0) (jQm (some .int) Q) := by
  intro x1 x2 x3 x4 x6 I L h
  rw [wX12_overByRule_60] at h
  refine jr_iload dX12_overByRule_60 rfl ?_
  refine jr_goto dX12_overByRule_62 (tgt := 67) (by decide) ?_
  refine jr_istore dX12_overByRule_67 (by decide) rfl ?_
  refine jr_iinc dX12_overByRule_69 rfl (by rw [kic_1]) (by decide) rfl ?_
  refine jr_goto dX12_overByRule_72 (tgt := 20) (by decide) ?_
  exact J.sub (hk20 _ _ _ _ _ _ _ _ h) (jsub_some (jsub_some (jsub_some (jsub_some (jsub_some (jsub_some (jsub_some jsub_nil)))))))
def wX12_overByRule_20 (G : jG) (l : Launch) (d : Nat) (k5 : Int32 → Int32 → Int32 → Int32 → jS → jL → Prop) (Q : Option Value → jS → jL → Prop) : Nat → Int32 → Int32 → Int32 → Int32 → Int32 → Int32 → jS → jL → Prop
  | 0, _, _, _, _, _, _, _, _ => False
  | n20 + 1, x1, x2, x3, x4, x5, x6, I, L => if (I 71 6) ≤ x6 then (vp_in x4 7 ∧ (k5 x1 x2 (x3 ||| ((1 : Int32) <<< (x5 &&& 31))) (x4 + (1 : Int32)) (u2 I 81 x4.toNatClampNeg x5) L)) else (cI G l mX12_isIn d [.int x3, .int x6] I L (fun r2 I2 L2 => (if r2 = 0 then (if x5 < 0 then (wX12_overByRule_60 G l d k5 (fun z0 z1 z2 z3 z4 z5 I L => wX12_overByRule_20 G l d k5 Q n20 z0 z1 z2 z3 z4 z5 I L) Q x1 x2 x3 x4 x6 I2 L2) else (cI G l mX12_rankOf d [.ref 71, .int x6, .int x2] I2 L2 (fun r3 I3 L3 => (cI G l mX12_rankOf d [.ref 71, .int x5, .int x2] I3 L3 (fun r4 I4 L4 => (if r4 ≤ r3 then ((wX12_overByRule_20 G l d k5 Q n20) x1 x2 x3 x4 x5 (x6 + (1 : Int32)) I4 L4) else (wX12_overByRule_60 G l d k5 (fun z0 z1 z2 z3 z4 z5 I L => wX12_overByRule_20 G l d k5 Q n20 z0 z1 z2 z3 z4 z5 I L) Q x1 x2 x3 x4 x6 I4 L4))))))) else ((wX12_overByRule_20 G l d k5 Q n20) x1 x2 x3 x4 x5 (x6 + (1 : Int32)) I2 L2))))
set_option maxRecDepth 100000 in
set_option maxHeartbeats 4000000 in
theorem wX12_overByRule_20_ok {G : jG} {l : Launch} {d : Nat} {Q : Option Value → jS → jL → Prop} {k5 : Int32 → Int32 → Int32 → Int32 → jS → jL → Prop} (hk5 : ∀ (x1 : Int32) (x2 : Int32) (x3 : Int32) (x4 : Int32) (I : jS) (L : jL), k5 x1 x2 x3 x4 I L → J G l yX12_overByRule cX12_overByRule 7 (d + 1) 0 0 5 [some (.ref 71), some (.int x1), some (.int x2), some (.int x3), some (.int x4), none, none] [] (jKS, I, L, jR0) (jQm (some .int) Q)) : ∀ (n : Nat) (x1 : Int32) (x2 : Int32) (x3 : Int32) (x4 : Int32) (x5 : Int32) (x6 : Int32) (I : jS) (L : jL), wX12_overByRule_20 G l d k5 Q n x1 x2 x3 x4 x5 x6 I L → J G l yX12_overByRule cX12_overByRule 7 (d + 1) 0 0 20 [some (.ref 71), some (.int x1), some (.int x2), some (.int x3), some (.int x4), some (.int x5), some (.int x6)] [] (jKS, I, L, jR0) (jQm (some .int) Q) := by
  intro n
  induction n with
  | zero => intro x1 x2 x3 x4 x5 x6 I L h; exact h.elim
  | succ n ih =>
    intro x1 x2 x3 x4 x5 x6 I L h
    rw [wX12_overByRule_20] at h
    refine jr_iload dX12_overByRule_20 rfl ?_
    refine jr_aload_n dX12_overByRule_22 rfl rfl ?_
    refine jv_geti rfl ff_X12_93 ks_71 dX12_overByRule_23 ?_
    refine jr_icmp_ge dX12_overByRule_26 (tgt := 75) (by decide) (fun c => ?_) (fun c => ?_)
    · rw [if_pos c] at h
      refine jr_aload_n dX12_overByRule_75 rfl rfl ?_
      refine jr_geta ff_X12_43 ks_71 rr_71_26 dX12_overByRule_76 ?_
      refine jr_iload dX12_overByRule_79 rfl ?_
      refine jr_iload dX12_overByRule_81 rfl ?_
      obtain ⟨g1, h⟩ := h
      refine jr_iastore rfl ks_81 dX12_overByRule_83 g1 ?_
      refine jr_iload_n dX12_overByRule_84 rfl rfl ?_
      refine jr_iconst dX12_overByRule_85 kic_1 ?_
      refine jr_iload dX12_overByRule_86 rfl ?_
      refine jr_ishl dX12_overByRule_88 ?_
      refine jr_ior dX12_overByRule_89 ?_
      refine jr_istore_n dX12_overByRule_90 rfl (by decide) rfl ?_
      refine jr_iinc dX12_overByRule_91 rfl (by rw [kic_1]) (by decide) rfl ?_
      refine jr_goto dX12_overByRule_94 (tgt := 5) (by decide) ?_
      exact J.sub (hk5 _ _ _ _ _ _ h) (jsub_some (jsub_some (jsub_some (jsub_some (jsub_some (jsub_none (jsub_none jsub_nil)))))))
    · rw [if_neg c] at h
      refine jr_iload_n dX12_overByRule_29 rfl rfl ?_
      refine jr_iload dX12_overByRule_30 rfl ?_
      refine jr_callS (mc2 := 0) (mc := 0) (ms2 := 0) (ms := 0) vm_X12_219 (av := [.int x3, .int x6]) (st := []) rfl rfl (Nat.le_of_ble_eq_true rfl) dX12_overByRule_32 (cI_use (M := (yX12_isIn, cX12_isIn, 2, some .boolean)) h ?_)
      intro r2 I2 L2 h
      refine jr_if_ne dX12_overByRule_35 (tgt := 65) (by decide) (fun c => ?_) (fun c => ?_)
      · rw [if_neg c] at h
        refine jr_iload dX12_overByRule_65 rfl ?_
        refine jr_istore dX12_overByRule_67 (by decide) rfl ?_
        refine jr_iinc dX12_overByRule_69 rfl (by rw [kic_1]) (by decide) rfl ?_
        refine jr_goto dX12_overByRule_72 (tgt := 20) (by decide) ?_
        exact J.sub (ih _ _ _ _ _ _ _ _ h) (jsub_some (jsub_some (jsub_some (jsub_some (jsub_some (jsub_some (jsub_some jsub_nil)))))))
      · rw [if_pos c] at h
        refine jr_iload dX12_overByRule_38 rfl ?_
        refine jr_if_lt dX12_overByRule_40 (tgt := 60) (by decide) (fun c => ?_) (fun c => ?_)
        · rw [if_pos c] at h
          exact J.sub (wX12_overByRule_60_ok  hk5 ih _ _ _ _ _ _ _ h) (jsub_some (jsub_some (jsub_some (jsub_some (jsub_some (jsub_none (jsub_some jsub_nil)))))))
        · rw [if_neg c] at h
          refine jr_aload_n dX12_overByRule_43 rfl rfl ?_
          refine jr_iload dX12_overByRule_44 rfl ?_
          refine jr_iload_n dX12_overByRule_46 rfl rfl ?_
          refine jr_callV (mc2 := 0) (mc := 0) (ms2 := 0) (ms := 0) vm_X12_277 (av := [.int x6, .int x2]) (st := []) rfl rfl ks_71 (by decide) rfl (Nat.le_of_ble_eq_true rfl) dX12_overByRule_47 (cI_use (M := (yX12_rankOf, cX12_rankOf, 3, some .int)) h ?_)
          intro r3 I3 L3 h
          refine jr_aload_n dX12_overByRule_50 rfl rfl ?_
          refine jr_iload dX12_overByRule_51 rfl ?_
          refine jr_iload_n dX12_overByRule_53 rfl rfl ?_
          refine jr_callV (mc2 := 0) (mc := 0) (ms2 := 0) (ms := 0) vm_X12_277 (av := [.int x5, .int x2]) (st := [.int r3]) rfl rfl ks_71 (by decide) rfl (Nat.le_of_ble_eq_true rfl) dX12_overByRule_54 (cI_use (M := (yX12_rankOf, cX12_rankOf, 3, some .int)) h ?_)
          intro r4 I4 L4 h
          refine jr_icmp_ge dX12_overByRule_57 (tgt := 65) (by decide) (fun c => ?_) (fun c => ?_)
          · rw [if_pos c] at h
            refine jr_iload dX12_overByRule_65 rfl ?_
            refine jr_istore dX12_overByRule_67 (by decide) rfl ?_
            refine jr_iinc dX12_overByRule_69 rfl (by rw [kic_1]) (by decide) rfl ?_
            refine jr_goto dX12_overByRule_72 (tgt := 20) (by decide) ?_
            exact J.sub (ih _ _ _ _ _ _ _ _ h) (jsub_some (jsub_some (jsub_some (jsub_some (jsub_some (jsub_some (jsub_some jsub_nil)))))))
          · rw [if_neg c] at h
            exact J.sub (wX12_overByRule_60_ok  hk5 ih _ _ _ _ _ _ _ h) (jsub_some (jsub_some (jsub_some (jsub_some (jsub_some (jsub_none (jsub_some jsub_nil)))))))
def wX12_overByRule_5 (G : jG) (l : Launch) (d : Nat) (Q : Option Value → jS → jL → Prop) : Nat → Int32 → Int32 → Int32 → Int32 → jS → jL → Prop
  | 0, _, _, _, _, _, _ => False
  | n5 + 1, x1, x2, x3, x4, I, L => if (I 71 6) ≤ x4 then (cI G l mX12_overOrder d [.ref 71, .int x1] I L (fun r1 I1 L1 => (Q (some (.int r1)) I1 L1))) else (∃ e20 : Nat, wX12_overByRule_20 G l d (fun z0 z1 z2 z3 I L => wX12_overByRule_5 G l d Q n5 z0 z1 z2 z3 I L) Q e20 x1 x2 x3 x4 (-1 : Int32) (0 : Int32) I L)
set_option maxRecDepth 100000 in
set_option maxHeartbeats 4000000 in
theorem wX12_overByRule_5_ok {G : jG} {l : Launch} {d : Nat} {Q : Option Value → jS → jL → Prop} : ∀ (n : Nat) (x1 : Int32) (x2 : Int32) (x3 : Int32) (x4 : Int32) (I : jS) (L : jL), wX12_overByRule_5 G l d Q n x1 x2 x3 x4 I L → J G l yX12_overByRule cX12_overByRule 7 (d + 1) 0 0 5 [some (.ref 71), some (.int x1), some (.int x2), some (.int x3), some (.int x4), none, none] [] (jKS, I, L, jR0) (jQm (some .int) Q) := by
  intro n
  induction n with
  | zero => intro x1 x2 x3 x4 I L h; exact h.elim
  | succ n ih =>
    intro x1 x2 x3 x4 I L h
    rw [wX12_overByRule_5] at h
    refine jr_iload dX12_overByRule_5 rfl ?_
    refine jr_aload_n dX12_overByRule_7 rfl rfl ?_
    refine jv_geti rfl ff_X12_93 ks_71 dX12_overByRule_8 ?_
    refine jr_icmp_ge dX12_overByRule_11 (tgt := 97) (by decide) (fun c => ?_) (fun c => ?_)
    · rw [if_pos c] at h
      refine jr_aload_n dX12_overByRule_97 rfl rfl ?_
      refine jr_iload_n dX12_overByRule_98 rfl rfl ?_
      refine jr_callV (mc2 := 0) (mc := 0) (ms2 := 0) (ms := 0) vm_X12_268 (av := [.int x1]) (st := []) rfl rfl ks_71 (by decide) rfl (Nat.le_of_ble_eq_true rfl) dX12_overByRule_99 (cI_use (M := (yX12_overOrder, cX12_overOrder, 4, some .int)) h ?_)
      intro r1 I1 L1 h
      exact jr_ireturn dX12_overByRule_102 ⟨Or.inr (Or.inl ⟨rfl, _, rfl⟩), _, _, rfl, h⟩
    · rw [if_neg c] at h
      refine jr_iconst dX12_overByRule_14 kic_m1 ?_
      refine jr_istore dX12_overByRule_15 (by decide) rfl ?_
      refine jr_iconst dX12_overByRule_17 kic_0 ?_
      refine jr_istore dX12_overByRule_18 (by decide) rfl ?_
      obtain ⟨e20, h⟩ := h
      exact J.sub (wX12_overByRule_20_ok  ih e20 _ _ _ _ _ _ _ _ h) (jsub_some (jsub_some (jsub_some (jsub_some (jsub_some (jsub_some (jsub_some jsub_nil)))))))
def wX12_overByRule (G : jG) (l : Launch) (d : Nat) (x1 : Int32) (x2 : Int32) (I : jS) (L : jL) (Q : Option Value → jS → jL → Prop) : Prop := ∃ e5 : Nat, wX12_overByRule_5 G l d Q e5 x1 x2 (0 : Int32) (0 : Int32) I L
set_option maxRecDepth 100000 in
set_option maxHeartbeats 4000000 in
theorem wX12_overByRule_ok {G : jG} {l : Launch} {d : Nat} {Q : Option Value → jS → jL → Prop} {x1 : Int32} {x2 : Int32} {I : jS} {L : jL} (h : wX12_overByRule G l d x1 x2 I L Q) : cM G l mX12_overByRule (d + 1) [.ref 71, .int x1, .int x2] I L Q := by
  rw [wX12_overByRule] at h
  show jCall G l yX12_overByRule cX12_overByRule 7 (some .int) (d + 1) 0 0 _ (jKS, I, L, jR0) _
  refine jCall_of (n0 := 4) (ls := [some (.ref 71), some (.int x1), some (.int x2), none, none, none, none]) (by decide +kernel) rfl (Nat.le_of_ble_eq_true rfl) (jQm_of ?_)
  refine jr_iconst dX12_overByRule_0 kic_0 ?_
  refine jr_istore_n dX12_overByRule_1 rfl (by decide) rfl ?_
  refine jr_iconst dX12_overByRule_2 kic_0 ?_
  refine jr_istore dX12_overByRule_3 (by decide) rfl ?_
  obtain ⟨e5, h⟩ := h
  exact J.sub (wX12_overByRule_5_ok  e5 _ _ _ _ _ _ h) (jsub_some (jsub_some (jsub_some (jsub_some (jsub_some (jsub_none (jsub_none jsub_nil)))))))
def wX12_rule_70 (G : jG) (l : Launch) (d : Nat) (k42 : Int32 → Int32 → Int32 → Int32 → jS → jL → Prop) (Q : Option Value → jS → jL → Prop) (x1 : Int32) (x4 : Int32) (x5 : Int32) (x6 : Int32) (t0 : Int32) (I : jS) (L : jL) : Prop := if x6 ≤ x4 then (k42 x1 t0 x4 (x5 + (1 : Int32)) I L) else (k42 x1 t0 x6 (x5 + (1 : Int32)) I L)
set_option maxRecDepth 100000 in
set_option maxHeartbeats 4000000 in
theorem wX12_rule_70_ok {G : jG} {l : Launch} {d : Nat} {Q : Option Value → jS → jL → Prop} {k42 : Int32 → Int32 → Int32 → Int32 → jS → jL → Prop} (hk42 : ∀ (x1 : Int32) (x3 : Int32) (x4 : Int32) (x5 : Int32) (I : jS) (L : jL), k42 x1 x3 x4 x5 I L → J G l yX12_rule cX12_rule 7 (d + 1) 0 0 42 [some (.ref 71), some (.int x1), none, some (.int x3), some (.int x4), some (.int x5), none] [] (jKS, I, L, jR0) (jQm (some .int) Q)) : ∀ (x1 : Int32) (x4 : Int32) (x5 : Int32) (x6 : Int32) (t0 : Int32) (I : jS) (L : jL), wX12_rule_70 G l d k42 Q x1 x4 x5 x6 t0 I L → J G l yX12_rule cX12_rule 7 (d + 1) 0 0 70 [some (.ref 71), some (.int x1), none, none, some (.int x4), some (.int x5), some (.int x6)] [.int t0] (jKS, I, L, jR0) (jQm (some .int) Q) := by
  intro x1 x4 x5 x6 t0 I L h
  rw [wX12_rule_70] at h
  refine jr_istore_n dX12_rule_70 rfl (by decide) rfl ?_
  refine jr_iload dX12_rule_71 rfl ?_
  refine jr_iload dX12_rule_73 rfl ?_
  refine jr_icmp_le dX12_rule_75 (tgt := 83) (by decide) (fun c => ?_) (fun c => ?_)
  · rw [if_pos c] at h
    refine jr_iload dX12_rule_83 rfl ?_
    refine jr_istore dX12_rule_85 (by decide) rfl ?_
    refine jr_iinc dX12_rule_87 rfl (by rw [kic_1]) (by decide) rfl ?_
    refine jr_goto dX12_rule_90 (tgt := 42) (by decide) ?_
    exact J.sub (hk42 _ _ _ _ _ _ h) (jsub_some (jsub_some (jsub_none (jsub_some (jsub_some (jsub_some (jsub_none jsub_nil)))))))
  · rw [if_neg c] at h
    refine jr_iload dX12_rule_78 rfl ?_
    refine jr_goto dX12_rule_80 (tgt := 85) (by decide) ?_
    refine jr_istore dX12_rule_85 (by decide) rfl ?_
    refine jr_iinc dX12_rule_87 rfl (by rw [kic_1]) (by decide) rfl ?_
    refine jr_goto dX12_rule_90 (tgt := 42) (by decide) ?_
    exact J.sub (hk42 _ _ _ _ _ _ h) (jsub_some (jsub_some (jsub_none (jsub_some (jsub_some (jsub_some (jsub_none jsub_nil)))))))
def wX12_rule_42 (G : jG) (l : Launch) (d : Nat) (Q : Option Value → jS → jL → Prop) : Nat → Int32 → Int32 → Int32 → Int32 → jS → jL → Prop
  | 0, _, _, _, _, _, _ => False
  | n42 + 1, x1, x3, x4, x5, I, L => if (4 : Int32) ≤ x5 then (Q (some (.int x3)) I L) else (cI G l mX12_overByRule d [.ref 71, .int x1, .int x5] I L (fun r1 I1 L1 => (if r1 ≤ x4 then (wX12_rule_70 G l d (fun z0 z1 z2 z3 I L => wX12_rule_42 G l d Q n42 z0 z1 z2 z3 I L) Q x1 x4 x5 r1 x3 I1 L1) else (wX12_rule_70 G l d (fun z0 z1 z2 z3 I L => wX12_rule_42 G l d Q n42 z0 z1 z2 z3 I L) Q x1 x4 x5 r1 x5 I1 L1))))
set_option maxRecDepth 100000 in
set_option maxHeartbeats 4000000 in
theorem wX12_rule_42_ok {G : jG} {l : Launch} {d : Nat} {Q : Option Value → jS → jL → Prop} : ∀ (n : Nat) (x1 : Int32) (x3 : Int32) (x4 : Int32) (x5 : Int32) (I : jS) (L : jL), wX12_rule_42 G l d Q n x1 x3 x4 x5 I L → J G l yX12_rule cX12_rule 7 (d + 1) 0 0 42 [some (.ref 71), some (.int x1), none, some (.int x3), some (.int x4), some (.int x5), none] [] (jKS, I, L, jR0) (jQm (some .int) Q) := by
  intro n
  induction n with
  | zero => intro x1 x3 x4 x5 I L h; exact h.elim
  | succ n ih =>
    intro x1 x3 x4 x5 I L h
    rw [wX12_rule_42] at h
    refine jr_iload dX12_rule_42 rfl ?_
    refine jr_iconst dX12_rule_44 kic_4 ?_
    refine jr_icmp_ge dX12_rule_45 (tgt := 93) (by decide) (fun c => ?_) (fun c => ?_)
    · rw [if_pos c] at h
      refine jr_iload_n dX12_rule_93 rfl rfl ?_
      exact jr_ireturn dX12_rule_94 ⟨Or.inr (Or.inl ⟨rfl, _, rfl⟩), _, _, rfl, h⟩
    · rw [if_neg c] at h
      refine jr_aload_n dX12_rule_48 rfl rfl ?_
      refine jr_iload_n dX12_rule_49 rfl rfl ?_
      refine jr_iload dX12_rule_50 rfl ?_
      refine jr_callV (mc2 := 0) (mc := 0) (ms2 := 0) (ms := 0) vm_X12_280 (av := [.int x1, .int x5]) (st := []) rfl rfl ks_71 (by decide) rfl (Nat.le_of_ble_eq_true rfl) dX12_rule_52 (cI_use (M := (yX12_overByRule, cX12_overByRule, 7, some .int)) h ?_)
      intro r1 I1 L1 h
      refine jr_istore dX12_rule_55 (by decide) rfl ?_
      refine jr_iload dX12_rule_57 rfl ?_
      refine jr_iload dX12_rule_59 rfl ?_
      refine jr_icmp_le dX12_rule_61 (tgt := 69) (by decide) (fun c => ?_) (fun c => ?_)
      · rw [if_pos c] at h
        refine jr_iload_n dX12_rule_69 rfl rfl ?_
        exact J.sub (wX12_rule_70_ok  ih _ _ _ _ _ _ _ h) (jsub_some (jsub_some (jsub_none (jsub_none (jsub_some (jsub_some (jsub_some jsub_nil)))))))
      · rw [if_neg c] at h
        refine jr_iload dX12_rule_64 rfl ?_
        refine jr_goto dX12_rule_66 (tgt := 70) (by decide) ?_
        exact J.sub (wX12_rule_70_ok  ih _ _ _ _ _ _ _ h) (jsub_some (jsub_some (jsub_none (jsub_none (jsub_some (jsub_some (jsub_some jsub_nil)))))))
def wX12_rule (G : jG) (l : Launch) (d : Nat) (x1 : Int32) (x2 : Int32) (I : jS) (L : jL) (Q : Option Value → jS → jL → Prop) : Prop := cI G l mX12_isWay d [.long (x1.toInt64)] I L (fun r1 I1 L1 => (if r1 = 0 then (Q (some (.int (-1 : Int32))) I1 L1) else (cI G l mX12_within d [.long (x2.toInt64), .long (0 : Int64), .long (4 : Int64)] I1 L1 (fun r2 I2 L2 => (if r2 = 0 then (Q (some (.int (-1 : Int32))) I2 L2) else (if (4 : Int32) ≤ x2 then (∃ e42 : Nat, wX12_rule_42 G l d Q e42 x1 (0 : Int32) (-1 : Int32) (0 : Int32) I2 L2) else (cI G l mX12_overByRule d [.ref 71, .int x1, .int x2] I2 L2 (fun r3 I3 L3 => (Q (some (.int r3)) I3 L3)))))))))
set_option maxRecDepth 100000 in
set_option maxHeartbeats 4000000 in
theorem wX12_rule_ok {G : jG} {l : Launch} {d : Nat} {Q : Option Value → jS → jL → Prop} {x1 : Int32} {x2 : Int32} {I : jS} {L : jL} (h : wX12_rule G l d x1 x2 I L Q) : cM G l mX12_rule (d + 1) [.ref 71, .int x1, .int x2] I L Q := by
  rw [wX12_rule] at h
  show jCall G l yX12_rule cX12_rule 7 (some .int) (d + 1) 0 0 _ (jKS, I, L, jR0) _
  refine jCall_of (n0 := 4) (ls := [some (.ref 71), some (.int x1), some (.int x2), none, none, none, none]) (by decide +kernel) rfl (Nat.le_of_ble_eq_true rfl) (jQm_of ?_)
  refine jr_iload_n dX12_rule_0 rfl rfl ?_
  refine jr_i2l dX12_rule_1 ?_
  refine jr_callS (mc2 := 0) (mc := 0) (ms2 := 0) (ms := 0) vm_X12_255 (av := [.long (x1.toInt64)]) (st := []) rfl rfl (Nat.le_of_ble_eq_true rfl) dX12_rule_2 (cI_use (M := (yX12_isWay, cX12_isWay, 2, some .boolean)) h ?_)
  intro r1 I1 L1 h
  refine jr_if_eq dX12_rule_5 (tgt := 20) (by decide) (fun c => ?_) (fun c => ?_)
  · rw [if_pos c] at h
    refine jr_iconst dX12_rule_20 kic_m1 ?_
    exact jr_ireturn dX12_rule_21 ⟨Or.inr (Or.inl ⟨rfl, _, rfl⟩), _, _, rfl, h⟩
  · rw [if_neg c] at h
    refine jr_iload_n dX12_rule_8 rfl rfl ?_
    refine jr_i2l dX12_rule_9 ?_
    refine jr_lconst dX12_rule_10 klc_0 ?_
    refine jr_ldc2 kl_X12_123 dX12_rule_11 ?_
    refine jr_callS (mc2 := 0) (mc := 0) (ms2 := 0) (ms := 0) vm_X12_96 (av := [.long (x2.toInt64), .long (0 : Int64), .long (4 : Int64)]) (st := []) rfl rfl (Nat.le_of_ble_eq_true rfl) dX12_rule_14 (cI_use (M := (yX12_within, cX12_within, 6, some .boolean)) h ?_)
    intro r2 I2 L2 h
    refine jr_if_ne dX12_rule_17 (tgt := 22) (by decide) (fun c => ?_) (fun c => ?_)
    · rw [if_neg c] at h
      refine jr_iload_n dX12_rule_22 rfl rfl ?_
      refine jr_iconst dX12_rule_23 kic_4 ?_
      refine jr_icmp_ge dX12_rule_24 (tgt := 34) (by decide) (fun c => ?_) (fun c => ?_)
      · rw [if_pos c] at h
        refine jr_iconst dX12_rule_34 kic_0 ?_
        refine jr_istore_n dX12_rule_35 rfl (by decide) rfl ?_
        refine jr_iconst dX12_rule_36 kic_m1 ?_
        refine jr_istore dX12_rule_37 (by decide) rfl ?_
        refine jr_iconst dX12_rule_39 kic_0 ?_
        refine jr_istore dX12_rule_40 (by decide) rfl ?_
        obtain ⟨e42, h⟩ := h
        exact J.sub (wX12_rule_42_ok  e42 _ _ _ _ _ _ h) (jsub_some (jsub_some (jsub_none (jsub_some (jsub_some (jsub_some (jsub_none jsub_nil)))))))
      · rw [if_neg c] at h
        refine jr_aload_n dX12_rule_27 rfl rfl ?_
        refine jr_iload_n dX12_rule_28 rfl rfl ?_
        refine jr_iload_n dX12_rule_29 rfl rfl ?_
        refine jr_callV (mc2 := 0) (mc := 0) (ms2 := 0) (ms := 0) vm_X12_280 (av := [.int x1, .int x2]) (st := []) rfl rfl ks_71 (by decide) rfl (Nat.le_of_ble_eq_true rfl) dX12_rule_30 (cI_use (M := (yX12_overByRule, cX12_overByRule, 7, some .int)) h ?_)
        intro r3 I3 L3 h
        exact jr_ireturn dX12_rule_33 ⟨Or.inr (Or.inl ⟨rfl, _, rfl⟩), _, _, rfl, h⟩
    · rw [if_pos c] at h
      refine jr_iconst dX12_rule_20 kic_m1 ?_
      exact jr_ireturn dX12_rule_21 ⟨Or.inr (Or.inl ⟨rfl, _, rfl⟩), _, _, rfl, h⟩
def wX12_waitsFor_89 (G : jG) (l : Launch) (d : Nat) (k34 : Int32 → Int32 → Int32 → Int32 → jS → jL → Prop) (Q : Option Value → jS → jL → Prop) (x1 : Int32) (x2 : Int32) (x3 : Int32) (x4 : Int32) (t0 : Int32) (I : jS) (L : jL) : Prop := cV G l mX12_passes d [.ref 71, .int t0] I L (fun I1 L1 => (cI G l mX12_crosses d [.ref 71, .int x1, .int x2] I1 L1 (fun r2 I2 L2 => ((r2 = 0 ∨ r2 = 1) ∧ (if r2 = 0 then (if x4 ≤ (60 : Int32) then (k34 x1 x2 x3 (x4 + (1 : Int32)) (u2 I2 71 30 r2) L2) else (Q (some (.int t0)) (u2 I2 71 30 r2) L2)) else (Q (some (.int t0)) (u2 I2 71 30 r2) L2))))))
set_option maxRecDepth 100000 in
set_option maxHeartbeats 4000000 in
theorem wX12_waitsFor_89_ok {G : jG} {l : Launch} {d : Nat} {Q : Option Value → jS → jL → Prop} {k34 : Int32 → Int32 → Int32 → Int32 → jS → jL → Prop} (hk34 : ∀ (x1 : Int32) (x2 : Int32) (x3 : Int32) (x4 : Int32) (I : jS) (L : jL), k34 x1 x2 x3 x4 I L → J G l yX12_waitsFor cX12_waitsFor 6 (d + 1) 0 0 34 [some (.ref 71), some (.int x1), some (.int x2), some (.int x3), some (.int x4), none] [] (jKS, I, L, jR0) (jQm (some .int) Q)) : ∀ (x1 : Int32) (x2 : Int32) (x3 : Int32) (x4 : Int32) (t0 : Int32) (I : jS) (L : jL), wX12_waitsFor_89 G l d k34 Q x1 x2 x3 x4 t0 I L → J G l yX12_waitsFor cX12_waitsFor 6 (d + 1) 0 0 89 [some (.ref 71), some (.int x1), some (.int x2), some (.int x3), some (.int x4), none] [.int t0] (jKS, I, L, jR0) (jQm (some .int) Q) := by
  intro x1 x2 x3 x4 t0 I L h
  rw [wX12_waitsFor_89] at h
  refine jr_istore dX12_waitsFor_89 (by decide) rfl ?_
  refine jr_aload_n dX12_waitsFor_91 rfl rfl ?_
  refine jr_iload dX12_waitsFor_92 rfl ?_
  refine jr_callV (mc2 := 0) (mc := 0) (ms2 := 0) (ms := 0) vm_X12_235 (av := [.int t0]) (st := []) rfl rfl ks_71 (by decide) rfl (Nat.le_of_ble_eq_true rfl) dX12_waitsFor_94 (cV_use (M := (yX12_passes, cX12_passes, 3, none)) h ?_)
  intro I1 L1 h
  refine jr_aload_n dX12_waitsFor_97 rfl rfl ?_
  refine jr_aload_n dX12_waitsFor_98 rfl rfl ?_
  refine jr_iload_n dX12_waitsFor_99 rfl rfl ?_
  refine jr_iload_n dX12_waitsFor_100 rfl rfl ?_
  refine jr_callV (mc2 := 0) (mc := 0) (ms2 := 0) (ms := 0) vm_X12_249 (av := [.int x1, .int x2]) (st := [.ref 71]) rfl rfl ks_71 (by decide) rfl (Nat.le_of_ble_eq_true rfl) dX12_waitsFor_101 (cI_use (M := (yX12_crosses, cX12_crosses, 3, some .boolean)) h ?_)
  intro r2 I2 L2 h
  obtain ⟨g3, h⟩ := h
  refine jr_putz ff_X12_283 ks_71 g3 dX12_waitsFor_104 ?_
  refine jr_aload_n dX12_waitsFor_107 rfl rfl ?_
  refine jv_geti u2e ff_X12_283 ks_71 dX12_waitsFor_108 ?_
  refine jr_if_ne dX12_waitsFor_111 (tgt := 121) (by decide) (fun c => ?_) (fun c => ?_)
  · rw [if_neg c] at h
    refine jr_iload dX12_waitsFor_121 rfl ?_
    exact jr_ireturn dX12_waitsFor_123 ⟨Or.inr (Or.inl ⟨rfl, _, rfl⟩), _, _, rfl, h⟩
  · rw [if_pos c] at h
    refine jr_iload dX12_waitsFor_114 rfl ?_
    refine jr_bipush dX12_waitsFor_116 kbp_60 ?_
    refine jr_icmp_le dX12_waitsFor_118 (tgt := 124) (by decide) (fun c => ?_) (fun c => ?_)
    · rw [if_pos c] at h
      refine jr_iinc dX12_waitsFor_124 rfl (by rw [kic_1]) (by decide) rfl ?_
      refine jr_goto dX12_waitsFor_127 (tgt := 34) (by decide) ?_
      exact J.sub (hk34 _ _ _ _ _ _ h) (jsub_some (jsub_some (jsub_some (jsub_some (jsub_some (jsub_none jsub_nil))))))
    · rw [if_neg c] at h
      refine jr_iload dX12_waitsFor_121 rfl ?_
      exact jr_ireturn dX12_waitsFor_123 ⟨Or.inr (Or.inl ⟨rfl, _, rfl⟩), _, _, rfl, h⟩
def wX12_waitsFor_44 (G : jG) (l : Launch) (d : Nat) (k34 : Int32 → Int32 → Int32 → Int32 → jS → jL → Prop) (Q : Option Value → jS → jL → Prop) : Nat → Int32 → Int32 → Int32 → Int32 → Int32 → jS → jL → Prop
  | 0, _, _, _, _, _, _, _ => False
  | n44 + 1, x1, x2, x3, x4, x5, I, L => if (24 : Int32) ≤ x5 then (if x4 ≤ (60 : Int32) then (wX12_waitsFor_89 G l d k34 Q x1 x2 x3 x4 x4 (u2 I 71 20 x3) L) else (wX12_waitsFor_89 G l d k34 Q x1 x2 x3 x4 (0 : Int32) (u2 I 71 20 x3) L)) else (vp_in x5 24 ∧ ((wX12_waitsFor_44 G l d k34 Q n44) x1 x2 x3 x4 (x5 + (1 : Int32)) (u2 I 80 x5.toNatClampNeg (I 83 x5.toNatClampNeg)) L))
set_option maxRecDepth 100000 in
set_option maxHeartbeats 4000000 in
theorem wX12_waitsFor_44_ok {G : jG} {l : Launch} {d : Nat} {Q : Option Value → jS → jL → Prop} {k34 : Int32 → Int32 → Int32 → Int32 → jS → jL → Prop} (hk34 : ∀ (x1 : Int32) (x2 : Int32) (x3 : Int32) (x4 : Int32) (I : jS) (L : jL), k34 x1 x2 x3 x4 I L → J G l yX12_waitsFor cX12_waitsFor 6 (d + 1) 0 0 34 [some (.ref 71), some (.int x1), some (.int x2), some (.int x3), some (.int x4), none] [] (jKS, I, L, jR0) (jQm (some .int) Q)) : ∀ (n : Nat) (x1 : Int32) (x2 : Int32) (x3 : Int32) (x4 : Int32) (x5 : Int32) (I : jS) (L : jL), wX12_waitsFor_44 G l d k34 Q n x1 x2 x3 x4 x5 I L → J G l yX12_waitsFor cX12_waitsFor 6 (d + 1) 0 0 44 [some (.ref 71), some (.int x1), some (.int x2), some (.int x3), some (.int x4), some (.int x5)] [] (jKS, I, L, jR0) (jQm (some .int) Q) := by
  intro n
  induction n with
  | zero => intro x1 x2 x3 x4 x5 I L h; exact h.elim
  | succ n ih =>
    intro x1 x2 x3 x4 x5 I L h
    rw [wX12_waitsFor_44] at h
    refine jr_iload dX12_waitsFor_44 rfl ?_
    refine jr_bipush dX12_waitsFor_46 kbp_24 ?_
    refine jr_icmp_ge dX12_waitsFor_48 (tgt := 71) (by decide) (fun c => ?_) (fun c => ?_)
    · rw [if_pos c] at h
      refine jr_aload_n dX12_waitsFor_71 rfl rfl ?_
      refine jr_iload_n dX12_waitsFor_72 rfl rfl ?_
      refine jr_puti ff_X12_210 ks_71 dX12_waitsFor_73 ?_
      refine jr_iload dX12_waitsFor_76 rfl ?_
      refine jr_bipush dX12_waitsFor_78 kbp_60 ?_
      refine jr_icmp_le dX12_waitsFor_80 (tgt := 87) (by decide) (fun c => ?_) (fun c => ?_)
      · rw [if_pos c] at h
        refine jr_iload dX12_waitsFor_87 rfl ?_
        exact J.sub (wX12_waitsFor_89_ok  hk34 _ _ _ _ _ _ _ h) (jsub_some (jsub_some (jsub_some (jsub_some (jsub_some (jsub_none jsub_nil))))))
      · rw [if_neg c] at h
        refine jr_iconst dX12_waitsFor_83 kic_0 ?_
        refine jr_goto dX12_waitsFor_84 (tgt := 89) (by decide) ?_
        exact J.sub (wX12_waitsFor_89_ok  hk34 _ _ _ _ _ _ _ h) (jsub_some (jsub_some (jsub_some (jsub_some (jsub_some (jsub_none jsub_nil))))))
    · rw [if_neg c] at h
      refine jr_aload_n dX12_waitsFor_51 rfl rfl ?_
      refine jr_geta ff_X12_36 ks_71 rr_71_19 dX12_waitsFor_52 ?_
      refine jr_iload dX12_waitsFor_55 rfl ?_
      refine jr_aload_n dX12_waitsFor_57 rfl rfl ?_
      refine jr_geta ff_X12_49 ks_71 rr_71_29 dX12_waitsFor_58 ?_
      refine jr_iload dX12_waitsFor_61 rfl ?_
      obtain ⟨g1, h⟩ := h
      refine jv_iaload rfl rfl ks_83 dX12_waitsFor_63 g1 ?_
      refine jr_iastore rfl ks_80 dX12_waitsFor_64 g1 ?_
      refine jr_iinc dX12_waitsFor_65 rfl (by rw [kic_1]) (by decide) rfl ?_
      refine jr_goto dX12_waitsFor_68 (tgt := 44) (by decide) ?_
      exact J.sub (ih _ _ _ _ _ _ _ h) (jsub_some (jsub_some (jsub_some (jsub_some (jsub_some (jsub_some jsub_nil))))))
def wX12_waitsFor_34 (G : jG) (l : Launch) (d : Nat) (Q : Option Value → jS → jL → Prop) : Nat → Int32 → Int32 → Int32 → Int32 → jS → jL → Prop
  | 0, _, _, _, _, _, _ => False
  | n34 + 1, x1, x2, x3, x4, I, L => if (61 : Int32) < x4 then (Q (some (.int (0 : Int32))) I L) else (∃ e44 : Nat, wX12_waitsFor_44 G l d (fun z0 z1 z2 z3 I L => wX12_waitsFor_34 G l d Q n34 z0 z1 z2 z3 I L) Q e44 x1 x2 x3 x4 (0 : Int32) I L)
set_option maxRecDepth 100000 in
set_option maxHeartbeats 4000000 in
theorem wX12_waitsFor_34_ok {G : jG} {l : Launch} {d : Nat} {Q : Option Value → jS → jL → Prop} : ∀ (n : Nat) (x1 : Int32) (x2 : Int32) (x3 : Int32) (x4 : Int32) (I : jS) (L : jL), wX12_waitsFor_34 G l d Q n x1 x2 x3 x4 I L → J G l yX12_waitsFor cX12_waitsFor 6 (d + 1) 0 0 34 [some (.ref 71), some (.int x1), some (.int x2), some (.int x3), some (.int x4), none] [] (jKS, I, L, jR0) (jQm (some .int) Q) := by
  intro n
  induction n with
  | zero => intro x1 x2 x3 x4 I L h; exact h.elim
  | succ n ih =>
    intro x1 x2 x3 x4 I L h
    rw [wX12_waitsFor_34] at h
    refine jr_iload dX12_waitsFor_34 rfl ?_
    refine jr_bipush dX12_waitsFor_36 kbp_61 ?_
    refine jr_icmp_gt dX12_waitsFor_38 (tgt := 130) (by decide) (fun c => ?_) (fun c => ?_)
    · rw [if_pos c] at h
      refine jr_iconst dX12_waitsFor_130 kic_0 ?_
      exact jr_ireturn dX12_waitsFor_131 ⟨Or.inr (Or.inl ⟨rfl, _, rfl⟩), _, _, rfl, h⟩
    · rw [if_neg c] at h
      refine jr_iconst dX12_waitsFor_41 kic_0 ?_
      refine jr_istore dX12_waitsFor_42 (by decide) rfl ?_
      obtain ⟨e44, h⟩ := h
      exact J.sub (wX12_waitsFor_44_ok  ih e44 _ _ _ _ _ _ _ h) (jsub_some (jsub_some (jsub_some (jsub_some (jsub_some (jsub_some jsub_nil))))))
def wX12_waitsFor_2 (G : jG) (l : Launch) (d : Nat) (Q : Option Value → jS → jL → Prop) : Nat → Int32 → Int32 → Int32 → jS → jL → Prop
  | 0, _, _, _, _, _ => False
  | n2 + 1, x1, x2, x3, I, L => if (24 : Int32) ≤ x3 then (∃ e34 : Nat, wX12_waitsFor_34 G l d Q e34 x1 x2 (I 71 20) (0 : Int32) I L) else (vp_in x3 24 ∧ ((wX12_waitsFor_2 G l d Q n2) x1 x2 (x3 + (1 : Int32)) (u2 I 83 x3.toNatClampNeg (I 80 x3.toNatClampNeg)) L))
set_option maxRecDepth 100000 in
set_option maxHeartbeats 4000000 in
theorem wX12_waitsFor_2_ok {G : jG} {l : Launch} {d : Nat} {Q : Option Value → jS → jL → Prop} : ∀ (n : Nat) (x1 : Int32) (x2 : Int32) (x3 : Int32) (I : jS) (L : jL), wX12_waitsFor_2 G l d Q n x1 x2 x3 I L → J G l yX12_waitsFor cX12_waitsFor 6 (d + 1) 0 0 2 [some (.ref 71), some (.int x1), some (.int x2), some (.int x3), none, none] [] (jKS, I, L, jR0) (jQm (some .int) Q) := by
  intro n
  induction n with
  | zero => intro x1 x2 x3 I L h; exact h.elim
  | succ n ih =>
    intro x1 x2 x3 I L h
    rw [wX12_waitsFor_2] at h
    refine jr_iload_n dX12_waitsFor_2 rfl rfl ?_
    refine jr_bipush dX12_waitsFor_3 kbp_24 ?_
    refine jr_icmp_ge dX12_waitsFor_5 (tgt := 26) (by decide) (fun c => ?_) (fun c => ?_)
    · rw [if_pos c] at h
      refine jr_aload_n dX12_waitsFor_26 rfl rfl ?_
      refine jv_geti rfl ff_X12_210 ks_71 dX12_waitsFor_27 ?_
      refine jr_istore_n dX12_waitsFor_30 rfl (by decide) rfl ?_
      refine jr_iconst dX12_waitsFor_31 kic_0 ?_
      refine jr_istore dX12_waitsFor_32 (by decide) rfl ?_
      obtain ⟨e34, h⟩ := h
      exact J.sub (wX12_waitsFor_34_ok  e34 _ _ _ _ _ _ h) (jsub_some (jsub_some (jsub_some (jsub_some (jsub_some (jsub_none jsub_nil))))))
    · rw [if_neg c] at h
      refine jr_aload_n dX12_waitsFor_8 rfl rfl ?_
      refine jr_geta ff_X12_49 ks_71 rr_71_29 dX12_waitsFor_9 ?_
      refine jr_iload_n dX12_waitsFor_12 rfl rfl ?_
      refine jr_aload_n dX12_waitsFor_13 rfl rfl ?_
      refine jr_geta ff_X12_36 ks_71 rr_71_19 dX12_waitsFor_14 ?_
      refine jr_iload_n dX12_waitsFor_17 rfl rfl ?_
      obtain ⟨g1, h⟩ := h
      refine jv_iaload rfl rfl ks_80 dX12_waitsFor_18 g1 ?_
      refine jr_iastore rfl ks_83 dX12_waitsFor_19 g1 ?_
      refine jr_iinc dX12_waitsFor_20 rfl (by rw [kic_1]) (by decide) rfl ?_
      refine jr_goto dX12_waitsFor_23 (tgt := 2) (by decide) ?_
      exact J.sub (ih _ _ _ _ _ h) (jsub_some (jsub_some (jsub_some (jsub_some (jsub_none (jsub_none jsub_nil))))))
def wX12_waitsFor (G : jG) (l : Launch) (d : Nat) (x1 : Int32) (x2 : Int32) (I : jS) (L : jL) (Q : Option Value → jS → jL → Prop) : Prop := ∃ e2 : Nat, wX12_waitsFor_2 G l d Q e2 x1 x2 (0 : Int32) I L
set_option maxRecDepth 100000 in
set_option maxHeartbeats 4000000 in
theorem wX12_waitsFor_ok {G : jG} {l : Launch} {d : Nat} {Q : Option Value → jS → jL → Prop} {x1 : Int32} {x2 : Int32} {I : jS} {L : jL} (h : wX12_waitsFor G l d x1 x2 I L Q) : cM G l mX12_waitsFor (d + 1) [.ref 71, .int x1, .int x2] I L Q := by
  rw [wX12_waitsFor] at h
  show jCall G l yX12_waitsFor cX12_waitsFor 6 (some .int) (d + 1) 0 0 _ (jKS, I, L, jR0) _
  refine jCall_of (n0 := 3) (ls := [some (.ref 71), some (.int x1), some (.int x2), none, none, none]) (by decide +kernel) rfl (Nat.le_of_ble_eq_true rfl) (jQm_of ?_)
  refine jr_iconst dX12_waitsFor_0 kic_0 ?_
  refine jr_istore_n dX12_waitsFor_1 rfl (by decide) rfl ?_
  obtain ⟨e2, h⟩ := h
  exact J.sub (wX12_waitsFor_2_ok  e2 _ _ _ _ _ h) (jsub_some (jsub_some (jsub_some (jsub_some (jsub_none (jsub_none jsub_nil))))))
def wX12_waits_60 (G : jG) (l : Launch) (d : Nat) (Q : Option Value → jS → jL → Prop) : Nat → Int32 → Int32 → Int32 → Int32 → Int32 → Int32 → Int32 → jS → jL → Prop
  | 0, _, _, _, _, _, _, _, _, _ => False
  | n60 + 1, x1, x2, x3, x4, x5, x6, x7, I, L => if x4 ≤ x7 then (if x3 < 0 then (if x3 = (-1 : Int32) then (Q (some (.int x5)) I L) else (Q (some (.int (I 71 20))) I L)) else (Q (some (.int x6)) I L)) else (cI G l mX12_goerAt d [.ref 71, .int x1, .int x7] I L (fun r1 I1 L1 => (cI G l mX12_waitsFor d [.ref 71, .int r1, .int x2] I1 L1 (fun r2 I2 L2 => (if x7 = x3 then ((wX12_waits_60 G l d Q n60) x1 x2 x3 x4 (x5 + r2) r2 (x7 + (1 : Int32)) I2 L2) else ((wX12_waits_60 G l d Q n60) x1 x2 x3 x4 (x5 + r2) x6 (x7 + (1 : Int32)) I2 L2))))))
set_option maxRecDepth 100000 in
set_option maxHeartbeats 4000000 in
theorem wX12_waits_60_ok {G : jG} {l : Launch} {d : Nat} {Q : Option Value → jS → jL → Prop} : ∀ (n : Nat) (x1 : Int32) (x2 : Int32) (x3 : Int32) (x4 : Int32) (x5 : Int32) (x6 : Int32) (x7 : Int32) (I : jS) (L : jL), wX12_waits_60 G l d Q n x1 x2 x3 x4 x5 x6 x7 I L → J G l yX12_waits cX12_waits 9 (d + 1) 0 0 60 [some (.ref 71), some (.int x1), some (.int x2), some (.int x3), some (.int x4), some (.int x5), some (.int x6), some (.int x7), none] [] (jKS, I, L, jR0) (jQm (some .int) Q) := by
  intro n
  induction n with
  | zero => intro x1 x2 x3 x4 x5 x6 x7 I L h; exact h.elim
  | succ n ih =>
    intro x1 x2 x3 x4 x5 x6 x7 I L h
    rw [wX12_waits_60] at h
    refine jr_iload dX12_waits_60 rfl ?_
    refine jr_iload dX12_waits_62 rfl ?_
    refine jr_icmp_ge dX12_waits_64 (tgt := 109) (by decide) (fun c => ?_) (fun c => ?_)
    · rw [if_pos c] at h
      refine jr_iload_n dX12_waits_109 rfl rfl ?_
      refine jr_if_lt dX12_waits_110 (tgt := 118) (by decide) (fun c => ?_) (fun c => ?_)
      · rw [if_pos c] at h
        refine jr_iload_n dX12_waits_118 rfl rfl ?_
        refine jr_iconst dX12_waits_119 kic_m1 ?_
        refine jr_icmp_ne dX12_waits_120 (tgt := 128) (by decide) (fun c => ?_) (fun c => ?_)
        · rw [if_neg c] at h
          refine jr_aload_n dX12_waits_128 rfl rfl ?_
          refine jv_geti rfl ff_X12_210 ks_71 dX12_waits_129 ?_
          exact jr_ireturn dX12_waits_132 ⟨Or.inr (Or.inl ⟨rfl, _, rfl⟩), _, _, rfl, h⟩
        · rw [if_pos c] at h
          refine jr_iload dX12_waits_123 rfl ?_
          refine jr_goto dX12_waits_125 (tgt := 132) (by decide) ?_
          exact jr_ireturn dX12_waits_132 ⟨Or.inr (Or.inl ⟨rfl, _, rfl⟩), _, _, rfl, h⟩
      · rw [if_neg c] at h
        refine jr_iload dX12_waits_113 rfl ?_
        refine jr_goto dX12_waits_115 (tgt := 132) (by decide) ?_
        exact jr_ireturn dX12_waits_132 ⟨Or.inr (Or.inl ⟨rfl, _, rfl⟩), _, _, rfl, h⟩
    · rw [if_neg c] at h
      refine jr_aload_n dX12_waits_67 rfl rfl ?_
      refine jr_aload_n dX12_waits_68 rfl rfl ?_
      refine jr_iload_n dX12_waits_69 rfl rfl ?_
      refine jr_iload dX12_waits_70 rfl ?_
      refine jr_callV (mc2 := 0) (mc := 0) (ms2 := 0) (ms := 0) vm_X12_246 (av := [.int x1, .int x7]) (st := [.ref 71]) rfl rfl ks_71 (by decide) rfl (Nat.le_of_ble_eq_true rfl) dX12_waits_72 (cI_use (M := (yX12_goerAt, cX12_goerAt, 3, some .int)) h ?_)
      intro r1 I1 L1 h
      refine jr_iload_n dX12_waits_75 rfl rfl ?_
      refine jr_callV (mc2 := 0) (mc := 0) (ms2 := 0) (ms := 0) vm_X12_287 (av := [.int r1, .int x2]) (st := []) rfl rfl ks_71 (by decide) rfl (Nat.le_of_ble_eq_true rfl) dX12_waits_76 (cI_use (M := (yX12_waitsFor, cX12_waitsFor, 6, some .int)) h ?_)
      intro r2 I2 L2 h
      refine jr_istore dX12_waits_79 (by decide) rfl ?_
      refine jr_iload dX12_waits_81 rfl ?_
      refine jr_iload dX12_waits_83 rfl ?_
      refine jr_iadd dX12_waits_85 ?_
      refine jr_istore dX12_waits_86 (by decide) rfl ?_
      refine jr_iload dX12_waits_88 rfl ?_
      refine jr_iload_n dX12_waits_90 rfl rfl ?_
      refine jr_icmp_ne dX12_waits_91 (tgt := 99) (by decide) (fun c => ?_) (fun c => ?_)
      · rw [if_neg c] at h
        refine jr_iload dX12_waits_99 rfl ?_
        refine jr_istore dX12_waits_101 (by decide) rfl ?_
        refine jr_iinc dX12_waits_103 rfl (by rw [kic_1]) (by decide) rfl ?_
        refine jr_goto dX12_waits_106 (tgt := 60) (by decide) ?_
        exact J.sub (ih _ _ _ _ _ _ _ _ _ h) (jsub_some (jsub_some (jsub_some (jsub_some (jsub_some (jsub_some (jsub_some (jsub_some (jsub_none jsub_nil)))))))))
      · rw [if_pos c] at h
        refine jr_iload dX12_waits_94 rfl ?_
        refine jr_goto dX12_waits_96 (tgt := 101) (by decide) ?_
        refine jr_istore dX12_waits_101 (by decide) rfl ?_
        refine jr_iinc dX12_waits_103 rfl (by rw [kic_1]) (by decide) rfl ?_
        refine jr_goto dX12_waits_106 (tgt := 60) (by decide) ?_
        exact J.sub (ih _ _ _ _ _ _ _ _ _ h) (jsub_some (jsub_some (jsub_some (jsub_some (jsub_some (jsub_some (jsub_some (jsub_some (jsub_none jsub_nil)))))))))
def wX12_waits (G : jG) (l : Launch) (d : Nat) (x1 : Int32) (x2 : Int32) (x3 : Int32) (I : jS) (L : jL) (Q : Option Value → jS → jL → Prop) : Prop := cI G l mX12_bytesIs d [.ref 71, .int x1] I L (fun r1 I1 L1 => (if r1 = (-1 : Int32) then (Q (some (.int (-1 : Int32))) I1 L1) else (cI G l mX12_isWay d [.long (x2.toInt64)] I1 L1 (fun r2 I2 L2 => (if r2 = 0 then (Q (some (.int (-1 : Int32))) I2 L2) else (if (-2 : Int32) ≤ x3 then (cI G l mX12_bytesIs d [.ref 71, .int x1] I2 L2 (fun r3 I3 L3 => (if 0 ≤ r3 then (cV G l mX12_begins1 d [.ref 71] I3 L3 (fun I4 L4 => (cI G l mX12_orderedOf d [.ref 71, .int x1] I4 L4 (fun r5 I5 L5 => (∃ e60 : Nat, wX12_waits_60 G l d Q e60 x1 x2 x3 r5 (0 : Int32) (-2 : Int32) (0 : Int32) I5 L5))))) else (cI G l mX12_bytesIs d [.ref 71, .int x1] I3 L3 (fun r6 I6 L6 => (Q (some (.int r6)) I6 L6)))))) else (Q (some (.int (-1 : Int32))) I2 L2)))))))
set_option maxRecDepth 100000 in
set_option maxHeartbeats 4000000 in
theorem wX12_waits_ok {G : jG} {l : Launch} {d : Nat} {Q : Option Value → jS → jL → Prop} {x1 : Int32} {x2 : Int32} {x3 : Int32} {I : jS} {L : jL} (h : wX12_waits G l d x1 x2 x3 I L Q) : cM G l mX12_waits (d + 1) [.ref 71, .int x1, .int x2, .int x3] I L Q := by
  rw [wX12_waits] at h
  show jCall G l yX12_waits cX12_waits 9 (some .int) (d + 1) 0 0 _ (jKS, I, L, jR0) _
  refine jCall_of (n0 := 5) (ls := [some (.ref 71), some (.int x1), some (.int x2), some (.int x3), none, none, none, none, none]) (by decide +kernel) rfl (Nat.le_of_ble_eq_true rfl) (jQm_of ?_)
  refine jr_aload_n dX12_waits_0 rfl rfl ?_
  refine jr_iload_n dX12_waits_1 rfl rfl ?_
  refine jr_callV (mc2 := 0) (mc := 0) (ms2 := 0) (ms := 0) vm_X12_252 (av := [.int x1]) (st := []) rfl rfl ks_71 (by decide) rfl (Nat.le_of_ble_eq_true rfl) dX12_waits_2 (cI_use (M := (yX12_bytesIs, cX12_bytesIs, 2, some .int)) h ?_)
  intro r1 I1 L1 h
  refine jr_iconst dX12_waits_5 kic_m1 ?_
  refine jr_icmp_eq dX12_waits_6 (tgt := 23) (by decide) (fun c => ?_) (fun c => ?_)
  · rw [if_pos c] at h
    refine jr_iconst dX12_waits_23 kic_m1 ?_
    exact jr_ireturn dX12_waits_24 ⟨Or.inr (Or.inl ⟨rfl, _, rfl⟩), _, _, rfl, h⟩
  · rw [if_neg c] at h
    refine jr_iload_n dX12_waits_9 rfl rfl ?_
    refine jr_i2l dX12_waits_10 ?_
    refine jr_callS (mc2 := 0) (mc := 0) (ms2 := 0) (ms := 0) vm_X12_255 (av := [.long (x2.toInt64)]) (st := []) rfl rfl (Nat.le_of_ble_eq_true rfl) dX12_waits_11 (cI_use (M := (yX12_isWay, cX12_isWay, 2, some .boolean)) h ?_)
    intro r2 I2 L2 h
    refine jr_if_eq dX12_waits_14 (tgt := 23) (by decide) (fun c => ?_) (fun c => ?_)
    · rw [if_pos c] at h
      refine jr_iconst dX12_waits_23 kic_m1 ?_
      exact jr_ireturn dX12_waits_24 ⟨Or.inr (Or.inl ⟨rfl, _, rfl⟩), _, _, rfl, h⟩
    · rw [if_neg c] at h
      refine jr_iload_n dX12_waits_17 rfl rfl ?_
      refine jr_bipush dX12_waits_18 kbp_m2 ?_
      refine jr_icmp_ge dX12_waits_20 (tgt := 25) (by decide) (fun c => ?_) (fun c => ?_)
      · rw [if_pos c] at h
        refine jr_aload_n dX12_waits_25 rfl rfl ?_
        refine jr_iload_n dX12_waits_26 rfl rfl ?_
        refine jr_callV (mc2 := 0) (mc := 0) (ms2 := 0) (ms := 0) vm_X12_252 (av := [.int x1]) (st := []) rfl rfl ks_71 (by decide) rfl (Nat.le_of_ble_eq_true rfl) dX12_waits_27 (cI_use (M := (yX12_bytesIs, cX12_bytesIs, 2, some .int)) h ?_)
        intro r3 I3 L3 h
        refine jr_if_ge dX12_waits_30 (tgt := 39) (by decide) (fun c => ?_) (fun c => ?_)
        · rw [if_pos c] at h
          refine jr_aload_n dX12_waits_39 rfl rfl ?_
          refine jr_callV (mc2 := 0) (mc := 0) (ms2 := 0) (ms := 0) vm_X12_146 (av := []) (st := []) rfl rfl ks_71 (by decide) rfl (Nat.le_of_ble_eq_true rfl) dX12_waits_40 (cV_use (M := (yX12_begins1, cX12_begins1, 2, none)) h ?_)
          intro I4 L4 h
          refine jr_aload_n dX12_waits_43 rfl rfl ?_
          refine jr_iload_n dX12_waits_44 rfl rfl ?_
          refine jr_callV (mc2 := 0) (mc := 0) (ms2 := 0) (ms := 0) vm_X12_258 (av := [.int x1]) (st := []) rfl rfl ks_71 (by decide) rfl (Nat.le_of_ble_eq_true rfl) dX12_waits_45 (cI_use (M := (yX12_orderedOf, cX12_orderedOf, 3, some .int)) h ?_)
          intro r5 I5 L5 h
          refine jr_istore dX12_waits_48 (by decide) rfl ?_
          refine jr_iconst dX12_waits_50 kic_0 ?_
          refine jr_istore dX12_waits_51 (by decide) rfl ?_
          refine jr_bipush dX12_waits_53 kbp_m2 ?_
          refine jr_istore dX12_waits_55 (by decide) rfl ?_
          refine jr_iconst dX12_waits_57 kic_0 ?_
          refine jr_istore dX12_waits_58 (by decide) rfl ?_
          obtain ⟨e60, h⟩ := h
          exact J.sub (wX12_waits_60_ok  e60 _ _ _ _ _ _ _ _ _ h) (jsub_some (jsub_some (jsub_some (jsub_some (jsub_some (jsub_some (jsub_some (jsub_some (jsub_none jsub_nil)))))))))
        · rw [if_neg c] at h
          refine jr_aload_n dX12_waits_33 rfl rfl ?_
          refine jr_iload_n dX12_waits_34 rfl rfl ?_
          refine jr_callV (mc2 := 0) (mc := 0) (ms2 := 0) (ms := 0) vm_X12_252 (av := [.int x1]) (st := []) rfl rfl ks_71 (by decide) rfl (Nat.le_of_ble_eq_true rfl) dX12_waits_35 (cI_use (M := (yX12_bytesIs, cX12_bytesIs, 2, some .int)) h ?_)
          intro r6 I6 L6 h
          exact jr_ireturn dX12_waits_38 ⟨Or.inr (Or.inl ⟨rfl, _, rfl⟩), _, _, rfl, h⟩
      · rw [if_neg c] at h
        refine jr_iconst dX12_waits_23 kic_m1 ?_
        exact jr_ireturn dX12_waits_24 ⟨Or.inr (Or.inl ⟨rfl, _, rfl⟩), _, _, rfl, h⟩
def wX12_soonestOn_59 (G : jG) (l : Launch) (d : Nat) (k18 : Int32 → Int32 → Int32 → jS → jL → Prop) (Q : Option Value → jS → jL → Prop) (x3 : Int32) (x5 : Int32) (t0 : Int32) (I : jS) (L : jL) : Prop := k18 x3 (t0 &&& (0 : Int32)) (x5 + (1 : Int32)) I L
set_option maxRecDepth 100000 in
set_option maxHeartbeats 4000000 in
theorem wX12_soonestOn_59_ok {G : jG} {l : Launch} {d : Nat} {Q : Option Value → jS → jL → Prop} {k18 : Int32 → Int32 → Int32 → jS → jL → Prop} (hk18 : ∀ (x3 : Int32) (x4 : Int32) (x5 : Int32) (I : jS) (L : jL), k18 x3 x4 x5 I L → J G l yX12_soonestOn cX12_soonestOn 7 (d + 1) 0 0 18 [some (.ref 71), none, none, some (.int x3), some (.int x4), some (.int x5), none] [] (jKS, I, L, jR0) (jQm (none) Q)) : ∀ (x3 : Int32) (x5 : Int32) (t0 : Int32) (I : jS) (L : jL), wX12_soonestOn_59 G l d k18 Q x3 x5 t0 I L → J G l yX12_soonestOn cX12_soonestOn 7 (d + 1) 0 0 59 [some (.ref 71), none, none, some (.int x3), none, some (.int x5), none] [.int t0] (jKS, I, L, jR0) (jQm (none) Q) := by
  intro x3 x5 t0 I L h
  rw [wX12_soonestOn_59] at h
  refine jr_iconst dX12_soonestOn_59 kic_0 ?_
  refine jr_iand dX12_soonestOn_60 ?_
  refine jr_istore dX12_soonestOn_61 (by decide) rfl ?_
  refine jr_iinc dX12_soonestOn_63 rfl (by rw [kic_1]) (by decide) rfl ?_
  refine jr_goto dX12_soonestOn_66 (tgt := 18) (by decide) ?_
  exact J.sub (hk18 _ _ _ _ _ h) (jsub_some (jsub_none (jsub_none (jsub_some (jsub_some (jsub_some (jsub_none jsub_nil)))))))
def wX12_soonestOn_92 (G : jG) (l : Launch) (d : Nat) (Q : Option Value → jS → jL → Prop) (I : jS) (L : jL) : Prop := cV G l mX12_keepsOrder d [.ref 71, .int (0 : Int32)] (u2 I 71 31 (I 71 20)) L (fun I1 L1 => (Q none I1 L1))
set_option maxRecDepth 100000 in
set_option maxHeartbeats 4000000 in
theorem wX12_soonestOn_92_ok {G : jG} {l : Launch} {d : Nat} {Q : Option Value → jS → jL → Prop} : ∀ (I : jS) (L : jL), wX12_soonestOn_92 G l d Q I L → J G l yX12_soonestOn cX12_soonestOn 7 (d + 1) 0 0 92 [some (.ref 71), none, none, none, none, none, none] [] (jKS, I, L, jR0) (jQm (none) Q) := by
  intro I L h
  rw [wX12_soonestOn_92] at h
  refine jr_aload_n dX12_soonestOn_92 rfl rfl ?_
  refine jr_aload_n dX12_soonestOn_93 rfl rfl ?_
  refine jv_geti rfl ff_X12_210 ks_71 dX12_soonestOn_94 ?_
  refine jr_puti ff_X12_290 ks_71 dX12_soonestOn_97 ?_
  refine jr_aload_n dX12_soonestOn_100 rfl rfl ?_
  refine jr_iconst dX12_soonestOn_101 kic_0 ?_
  refine jr_callV (mc2 := 0) (mc := 0) (ms2 := 0) (ms := 0) vm_X12_271 (av := [.int (0 : Int32)]) (st := []) rfl rfl ks_71 (by decide) rfl (Nat.le_of_ble_eq_true rfl) dX12_soonestOn_102 (cV_use (M := (yX12_keepsOrder, cX12_keepsOrder, 3, none)) h ?_)
  intro I1 L1 h
  exact jr_return dX12_soonestOn_105 ⟨Or.inl ⟨rfl, rfl⟩, _, _, rfl, h⟩
def wX12_soonestOn_18 (G : jG) (l : Launch) (d : Nat) (Q : Option Value → jS → jL → Prop) : Nat → Int32 → Int32 → Int32 → jS → jL → Prop
  | 0, _, _, _, _, _ => False
  | n18 + 1, x3, x4, x5, I, L => if (I 71 6) ≤ x5 then (if x4 = 0 then (Q none I L) else (if (I 71 31) < 0 then (wX12_soonestOn_92 G l d Q I L) else (if (I 71 31) ≤ (I 71 20) then (Q none I L) else (wX12_soonestOn_92 G l d Q I L)))) else (vp_in x5 7 ∧ (cI G l mX12_waitsFor d [.ref 71, .int (I 81 x5.toNatClampNeg), .int x3] I L (fun r2 I2 L2 => (if (I2 71 30) = 0 then (wX12_soonestOn_59 G l d (fun z0 z1 z2 I L => wX12_soonestOn_18 G l d Q n18 z0 z1 z2 I L) Q x3 x5 x4 I2 L2) else (if r2 < 0 then (wX12_soonestOn_59 G l d (fun z0 z1 z2 I L => wX12_soonestOn_18 G l d Q n18 z0 z1 z2 I L) Q x3 x5 x4 I2 L2) else ((wX12_soonestOn_18 G l d Q n18) x3 (x4 &&& (1 : Int32)) (x5 + (1 : Int32)) I2 L2))))))
set_option maxRecDepth 100000 in
set_option maxHeartbeats 4000000 in
theorem wX12_soonestOn_18_ok {G : jG} {l : Launch} {d : Nat} {Q : Option Value → jS → jL → Prop} : ∀ (n : Nat) (x3 : Int32) (x4 : Int32) (x5 : Int32) (I : jS) (L : jL), wX12_soonestOn_18 G l d Q n x3 x4 x5 I L → J G l yX12_soonestOn cX12_soonestOn 7 (d + 1) 0 0 18 [some (.ref 71), none, none, some (.int x3), some (.int x4), some (.int x5), none] [] (jKS, I, L, jR0) (jQm (none) Q) := by
  intro n
  induction n with
  | zero => intro x3 x4 x5 I L h; exact h.elim
  | succ n ih =>
    intro x3 x4 x5 I L h
    rw [wX12_soonestOn_18] at h
    refine jr_iload dX12_soonestOn_18 rfl ?_
    refine jr_aload_n dX12_soonestOn_20 rfl rfl ?_
    refine jv_geti rfl ff_X12_93 ks_71 dX12_soonestOn_21 ?_
    refine jr_icmp_ge dX12_soonestOn_24 (tgt := 69) (by decide) (fun c => ?_) (fun c => ?_)
    · rw [if_pos c] at h
      refine jr_iload dX12_soonestOn_69 rfl ?_
      refine jr_if_eq dX12_soonestOn_71 (tgt := 105) (by decide) (fun c => ?_) (fun c => ?_)
      · rw [if_pos c] at h
        exact jr_return dX12_soonestOn_105 ⟨Or.inl ⟨rfl, rfl⟩, _, _, rfl, h⟩
      · rw [if_neg c] at h
        refine jr_aload_n dX12_soonestOn_74 rfl rfl ?_
        refine jv_geti rfl ff_X12_290 ks_71 dX12_soonestOn_75 ?_
        refine jr_if_lt dX12_soonestOn_78 (tgt := 92) (by decide) (fun c => ?_) (fun c => ?_)
        · rw [if_pos c] at h
          exact J.sub (wX12_soonestOn_92_ok  _ _ h) (jsub_some (jsub_none (jsub_none (jsub_none (jsub_none (jsub_none (jsub_none jsub_nil)))))))
        · rw [if_neg c] at h
          refine jr_aload_n dX12_soonestOn_81 rfl rfl ?_
          refine jv_geti rfl ff_X12_210 ks_71 dX12_soonestOn_82 ?_
          refine jr_aload_n dX12_soonestOn_85 rfl rfl ?_
          refine jv_geti rfl ff_X12_290 ks_71 dX12_soonestOn_86 ?_
          refine jr_icmp_ge dX12_soonestOn_89 (tgt := 105) (by decide) (fun c => ?_) (fun c => ?_)
          · rw [if_pos c] at h
            exact jr_return dX12_soonestOn_105 ⟨Or.inl ⟨rfl, rfl⟩, _, _, rfl, h⟩
          · rw [if_neg c] at h
            exact J.sub (wX12_soonestOn_92_ok  _ _ h) (jsub_some (jsub_none (jsub_none (jsub_none (jsub_none (jsub_none (jsub_none jsub_nil)))))))
    · rw [if_neg c] at h
      refine jr_aload_n dX12_soonestOn_27 rfl rfl ?_
      refine jr_aload_n dX12_soonestOn_28 rfl rfl ?_
      refine jr_geta ff_X12_43 ks_71 rr_71_26 dX12_soonestOn_29 ?_
      refine jr_iload dX12_soonestOn_32 rfl ?_
      obtain ⟨g1, h⟩ := h
      refine jv_iaload rfl rfl ks_81 dX12_soonestOn_34 g1 ?_
      refine jr_iload_n dX12_soonestOn_35 rfl rfl ?_
      refine jr_callV (mc2 := 0) (mc := 0) (ms2 := 0) (ms := 0) vm_X12_287 (av := [.int (I 81 x5.toNatClampNeg), .int x3]) (st := []) rfl rfl ks_71 (by decide) rfl (Nat.le_of_ble_eq_true rfl) dX12_soonestOn_36 (cI_use (M := (yX12_waitsFor, cX12_waitsFor, 6, some .int)) h ?_)
      intro r2 I2 L2 h
      refine jr_istore dX12_soonestOn_39 (by decide) rfl ?_
      refine jr_iload dX12_soonestOn_41 rfl ?_
      refine jr_aload_n dX12_soonestOn_43 rfl rfl ?_
      refine jv_geti rfl ff_X12_283 ks_71 dX12_soonestOn_44 ?_
      refine jr_if_eq dX12_soonestOn_47 (tgt := 59) (by decide) (fun c => ?_) (fun c => ?_)
      · rw [if_pos c] at h
        exact J.sub (wX12_soonestOn_59_ok  ih _ _ _ _ _ h) (jsub_some (jsub_none (jsub_none (jsub_some (jsub_none (jsub_some (jsub_none jsub_nil)))))))
      · rw [if_neg c] at h
        refine jr_iload dX12_soonestOn_50 rfl ?_
        refine jr_if_lt dX12_soonestOn_52 (tgt := 59) (by decide) (fun c => ?_) (fun c => ?_)
        · rw [if_pos c] at h
          exact J.sub (wX12_soonestOn_59_ok  ih _ _ _ _ _ h) (jsub_some (jsub_none (jsub_none (jsub_some (jsub_none (jsub_some (jsub_none jsub_nil)))))))
        · rw [if_neg c] at h
          refine jr_iconst dX12_soonestOn_55 kic_1 ?_
          refine jr_goto dX12_soonestOn_56 (tgt := 60) (by decide) ?_
          refine jr_iand dX12_soonestOn_60 ?_
          refine jr_istore dX12_soonestOn_61 (by decide) rfl ?_
          refine jr_iinc dX12_soonestOn_63 rfl (by rw [kic_1]) (by decide) rfl ?_
          refine jr_goto dX12_soonestOn_66 (tgt := 18) (by decide) ?_
          exact J.sub (ih _ _ _ _ _ h) (jsub_some (jsub_none (jsub_none (jsub_some (jsub_some (jsub_some (jsub_none jsub_nil)))))))
def wX12_soonestOn_109 (G : jG) (l : Launch) (d : Nat) (Q : Option Value → jS → jL → Prop) : Nat → Int32 → Int32 → Int32 → Int32 → jS → jL → Prop
  | 0, _, _, _, _, _, _ => False
  | n109 + 1, x1, x2, x3, x4, I, L => if (I 71 6) ≤ x4 then (Q none I L) else (cI G l mX12_isIn d [.int x2, .int x4] I L (fun r1 I1 L1 => (if r1 = 0 then (vp_in x1 7 ∧ (cV G l mX12_soonestOn d [.ref 71, .int (x1 + (1 : Int32)), .int (x2 ||| ((1 : Int32) <<< (x4 &&& 31))), .int x3] (u2 I1 81 x1.toNatClampNeg x4) L1 (fun I3 L3 => ((wX12_soonestOn_109 G l d Q n109) x1 x2 x3 (x4 + (1 : Int32)) I3 L3)))) else ((wX12_soonestOn_109 G l d Q n109) x1 x2 x3 (x4 + (1 : Int32)) I1 L1))))
set_option maxRecDepth 100000 in
set_option maxHeartbeats 4000000 in
theorem wX12_soonestOn_109_ok {G : jG} {l : Launch} {d : Nat} {Q : Option Value → jS → jL → Prop} : ∀ (n : Nat) (x1 : Int32) (x2 : Int32) (x3 : Int32) (x4 : Int32) (I : jS) (L : jL), wX12_soonestOn_109 G l d Q n x1 x2 x3 x4 I L → J G l yX12_soonestOn cX12_soonestOn 7 (d + 1) 0 0 109 [some (.ref 71), some (.int x1), some (.int x2), some (.int x3), some (.int x4), none, none] [] (jKS, I, L, jR0) (jQm (none) Q) := by
  intro n
  induction n with
  | zero => intro x1 x2 x3 x4 I L h; exact h.elim
  | succ n ih =>
    intro x1 x2 x3 x4 I L h
    rw [wX12_soonestOn_109] at h
    refine jr_iload dX12_soonestOn_109 rfl ?_
    refine jr_aload_n dX12_soonestOn_111 rfl rfl ?_
    refine jv_geti rfl ff_X12_93 ks_71 dX12_soonestOn_112 ?_
    refine jr_icmp_ge dX12_soonestOn_115 (tgt := 155) (by decide) (fun c => ?_) (fun c => ?_)
    · rw [if_pos c] at h
      exact jr_return dX12_soonestOn_155 ⟨Or.inl ⟨rfl, rfl⟩, _, _, rfl, h⟩
    · rw [if_neg c] at h
      refine jr_iload_n dX12_soonestOn_118 rfl rfl ?_
      refine jr_iload dX12_soonestOn_119 rfl ?_
      refine jr_callS (mc2 := 0) (mc := 0) (ms2 := 0) (ms := 0) vm_X12_219 (av := [.int x2, .int x4]) (st := []) rfl rfl (Nat.le_of_ble_eq_true rfl) dX12_soonestOn_121 (cI_use (M := (yX12_isIn, cX12_isIn, 2, some .boolean)) h ?_)
      intro r1 I1 L1 h
      refine jr_if_ne dX12_soonestOn_124 (tgt := 149) (by decide) (fun c => ?_) (fun c => ?_)
      · rw [if_neg c] at h
        refine jr_iinc dX12_soonestOn_149 rfl (by rw [kic_1]) (by decide) rfl ?_
        refine jr_goto dX12_soonestOn_152 (tgt := 109) (by decide) ?_
        exact J.sub (ih _ _ _ _ _ _ h) (jsub_some (jsub_some (jsub_some (jsub_some (jsub_some (jsub_none (jsub_none jsub_nil)))))))
      · rw [if_pos c] at h
        refine jr_aload_n dX12_soonestOn_127 rfl rfl ?_
        refine jr_geta ff_X12_43 ks_71 rr_71_26 dX12_soonestOn_128 ?_
        refine jr_iload_n dX12_soonestOn_131 rfl rfl ?_
        refine jr_iload dX12_soonestOn_132 rfl ?_
        obtain ⟨g2, h⟩ := h
        refine jr_iastore rfl ks_81 dX12_soonestOn_134 g2 ?_
        refine jr_aload_n dX12_soonestOn_135 rfl rfl ?_
        refine jr_iload_n dX12_soonestOn_136 rfl rfl ?_
        refine jr_iconst dX12_soonestOn_137 kic_1 ?_
        refine jr_iadd dX12_soonestOn_138 ?_
        refine jr_iload_n dX12_soonestOn_139 rfl rfl ?_
        refine jr_iconst dX12_soonestOn_140 kic_1 ?_
        refine jr_iload dX12_soonestOn_141 rfl ?_
        refine jr_ishl dX12_soonestOn_143 ?_
        refine jr_ior dX12_soonestOn_144 ?_
        refine jr_iload_n dX12_soonestOn_145 rfl rfl ?_
        refine jr_callV (mc2 := 0) (mc := 0) (ms2 := 0) (ms := 0) vm_X12_293 (av := [.int (x1 + (1 : Int32)), .int (x2 ||| ((1 : Int32) <<< (x4 &&& 31))), .int x3]) (st := []) rfl rfl ks_71 (by decide) rfl (Nat.le_of_ble_eq_true rfl) dX12_soonestOn_146 (cV_use (M := (yX12_soonestOn, cX12_soonestOn, 7, none)) h ?_)
        intro I3 L3 h
        refine jr_iinc dX12_soonestOn_149 rfl (by rw [kic_1]) (by decide) rfl ?_
        refine jr_goto dX12_soonestOn_152 (tgt := 109) (by decide) ?_
        exact J.sub (ih _ _ _ _ _ _ h) (jsub_some (jsub_some (jsub_some (jsub_some (jsub_some (jsub_none (jsub_none jsub_nil)))))))
def wX12_soonestOn (G : jG) (l : Launch) (d : Nat) (x1 : Int32) (x2 : Int32) (x3 : Int32) (I : jS) (L : jL) (Q : Option Value → jS → jL → Prop) : Prop := if x1 = (I 71 6) then (cV G l mX12_begins1 d [.ref 71] I L (fun I1 L1 => (∃ e18 : Nat, wX12_soonestOn_18 G l d Q e18 x3 (1 : Int32) (0 : Int32) I1 L1))) else (∃ e109 : Nat, wX12_soonestOn_109 G l d Q e109 x1 x2 x3 (0 : Int32) I L)
set_option maxRecDepth 100000 in
set_option maxHeartbeats 4000000 in
theorem wX12_soonestOn_ok {G : jG} {l : Launch} {d : Nat} {Q : Option Value → jS → jL → Prop} {x1 : Int32} {x2 : Int32} {x3 : Int32} {I : jS} {L : jL} (h : wX12_soonestOn G l d x1 x2 x3 I L Q) : cM G l mX12_soonestOn (d + 1) [.ref 71, .int x1, .int x2, .int x3] I L Q := by
  rw [wX12_soonestOn] at h
  show jCall G l yX12_soonestOn cX12_soonestOn 7 (none) (d + 1) 0 0 _ (jKS, I, L, jR0) _
  refine jCall_of (n0 := 3) (ls := [some (.ref 71), some (.int x1), some (.int x2), some (.int x3), none, none, none]) (by decide +kernel) rfl (Nat.le_of_ble_eq_true rfl) (jQm_of ?_)
  refine jr_iload_n dX12_soonestOn_0 rfl rfl ?_
  refine jr_aload_n dX12_soonestOn_1 rfl rfl ?_
  refine jv_geti rfl ff_X12_93 ks_71 dX12_soonestOn_2 ?_
  refine jr_icmp_ne dX12_soonestOn_5 (tgt := 106) (by decide) (fun c => ?_) (fun c => ?_)
  · rw [if_neg c] at h
    refine jr_iconst dX12_soonestOn_106 kic_0 ?_
    refine jr_istore dX12_soonestOn_107 (by decide) rfl ?_
    obtain ⟨e109, h⟩ := h
    exact J.sub (wX12_soonestOn_109_ok  e109 _ _ _ _ _ _ h) (jsub_some (jsub_some (jsub_some (jsub_some (jsub_some (jsub_none (jsub_none jsub_nil)))))))
  · rw [if_pos c] at h
    refine jr_aload_n dX12_soonestOn_8 rfl rfl ?_
    refine jr_callV (mc2 := 0) (mc := 0) (ms2 := 0) (ms := 0) vm_X12_146 (av := []) (st := []) rfl rfl ks_71 (by decide) rfl (Nat.le_of_ble_eq_true rfl) dX12_soonestOn_9 (cV_use (M := (yX12_begins1, cX12_begins1, 2, none)) h ?_)
    intro I1 L1 h
    refine jr_iconst dX12_soonestOn_12 kic_1 ?_
    refine jr_istore dX12_soonestOn_13 (by decide) rfl ?_
    refine jr_iconst dX12_soonestOn_15 kic_0 ?_
    refine jr_istore dX12_soonestOn_16 (by decide) rfl ?_
    obtain ⟨e18, h⟩ := h
    exact J.sub (wX12_soonestOn_18_ok  e18 _ _ _ _ _ h) (jsub_some (jsub_none (jsub_none (jsub_some (jsub_some (jsub_some (jsub_none jsub_nil)))))))
def wX12_soonest (G : jG) (l : Launch) (d : Nat) (x1 : Int32) (x2 : Int32) (I : jS) (L : jL) (Q : Option Value → jS → jL → Prop) : Prop := cI G l mX12_isWay d [.long (x1.toInt64)] I L (fun r1 I1 L1 => (if r1 = 0 then (Q (some (.int (-1 : Int32))) I1 L1) else (if (-1 : Int32) ≤ x2 then (if (I1 71 6) ≤ (5 : Int32) then (cV G l mX12_soonestOn d [.ref 71, .int (0 : Int32), .int (0 : Int32), .int x1] (u2 I1 71 31 (-2 : Int32)) L1 (fun I2 L2 => (if x2 < 0 then (Q (some (.int (I2 71 31))) I2 L2) else (if 0 ≤ (I2 71 31) then (if (I2 71 6) ≤ x2 then (Q (some (.int (-2 : Int32))) I2 L2) else (vp_in x2 7 ∧ (Q (some (.int (I2 82 x2.toNatClampNeg))) I2 L2))) else (Q (some (.int (I2 71 31))) I2 L2))))) else (Q (some (.int (-5 : Int32))) I1 L1)) else (Q (some (.int (-1 : Int32))) I1 L1))))
set_option maxRecDepth 100000 in
set_option maxHeartbeats 4000000 in
theorem wX12_soonest_ok {G : jG} {l : Launch} {d : Nat} {Q : Option Value → jS → jL → Prop} {x1 : Int32} {x2 : Int32} {I : jS} {L : jL} (h : wX12_soonest G l d x1 x2 I L Q) : cM G l mX12_soonest (d + 1) [.ref 71, .int x1, .int x2] I L Q := by
  rw [wX12_soonest] at h
  show jCall G l yX12_soonest cX12_soonest 3 (some .int) (d + 1) 0 0 _ (jKS, I, L, jR0) _
  refine jCall_of (n0 := 0) (ls := [some (.ref 71), some (.int x1), some (.int x2)]) (by decide +kernel) rfl (Nat.le_of_ble_eq_true rfl) (jQm_of ?_)
  refine jr_iload_n dX12_soonest_0 rfl rfl ?_
  refine jr_i2l dX12_soonest_1 ?_
  refine jr_callS (mc2 := 0) (mc := 0) (ms2 := 0) (ms := 0) vm_X12_255 (av := [.long (x1.toInt64)]) (st := []) rfl rfl (Nat.le_of_ble_eq_true rfl) dX12_soonest_2 (cI_use (M := (yX12_isWay, cX12_isWay, 2, some .boolean)) h ?_)
  intro r1 I1 L1 h
  refine jr_if_eq dX12_soonest_5 (tgt := 13) (by decide) (fun c => ?_) (fun c => ?_)
  · rw [if_pos c] at h
    refine jr_iconst dX12_soonest_13 kic_m1 ?_
    exact jr_ireturn dX12_soonest_14 ⟨Or.inr (Or.inl ⟨rfl, _, rfl⟩), _, _, rfl, h⟩
  · rw [if_neg c] at h
    refine jr_iload_n dX12_soonest_8 rfl rfl ?_
    refine jr_iconst dX12_soonest_9 kic_m1 ?_
    refine jr_icmp_ge dX12_soonest_10 (tgt := 15) (by decide) (fun c => ?_) (fun c => ?_)
    · rw [if_pos c] at h
      refine jr_aload_n dX12_soonest_15 rfl rfl ?_
      refine jv_geti rfl ff_X12_93 ks_71 dX12_soonest_16 ?_
      refine jr_iconst dX12_soonest_19 kic_5 ?_
      refine jr_icmp_le dX12_soonest_20 (tgt := 26) (by decide) (fun c => ?_) (fun c => ?_)
      · rw [if_pos c] at h
        refine jr_aload_n dX12_soonest_26 rfl rfl ?_
        refine jr_bipush dX12_soonest_27 kbp_m2 ?_
        refine jr_puti ff_X12_290 ks_71 dX12_soonest_29 ?_
        refine jr_aload_n dX12_soonest_32 rfl rfl ?_
        refine jr_iconst dX12_soonest_33 kic_0 ?_
        refine jr_iconst dX12_soonest_34 kic_0 ?_
        refine jr_iload_n dX12_soonest_35 rfl rfl ?_
        refine jr_callV (mc2 := 0) (mc := 0) (ms2 := 0) (ms := 0) vm_X12_293 (av := [.int (0 : Int32), .int (0 : Int32), .int x1]) (st := []) rfl rfl ks_71 (by decide) rfl (Nat.le_of_ble_eq_true rfl) dX12_soonest_36 (cV_use (M := (yX12_soonestOn, cX12_soonestOn, 7, none)) h ?_)
        intro I2 L2 h
        refine jr_iload_n dX12_soonest_39 rfl rfl ?_
        refine jr_if_lt dX12_soonest_40 (tgt := 50) (by decide) (fun c => ?_) (fun c => ?_)
        · rw [if_pos c] at h
          refine jr_aload_n dX12_soonest_50 rfl rfl ?_
          refine jv_geti rfl ff_X12_290 ks_71 dX12_soonest_51 ?_
          exact jr_ireturn dX12_soonest_54 ⟨Or.inr (Or.inl ⟨rfl, _, rfl⟩), _, _, rfl, h⟩
        · rw [if_neg c] at h
          refine jr_aload_n dX12_soonest_43 rfl rfl ?_
          refine jv_geti rfl ff_X12_290 ks_71 dX12_soonest_44 ?_
          refine jr_if_ge dX12_soonest_47 (tgt := 55) (by decide) (fun c => ?_) (fun c => ?_)
          · rw [if_pos c] at h
            refine jr_iload_n dX12_soonest_55 rfl rfl ?_
            refine jr_aload_n dX12_soonest_56 rfl rfl ?_
            refine jv_geti rfl ff_X12_93 ks_71 dX12_soonest_57 ?_
            refine jr_icmp_ge dX12_soonest_60 (tgt := 72) (by decide) (fun c => ?_) (fun c => ?_)
            · rw [if_pos c] at h
              refine jr_bipush dX12_soonest_72 kbp_m2 ?_
              exact jr_ireturn dX12_soonest_74 ⟨Or.inr (Or.inl ⟨rfl, _, rfl⟩), _, _, rfl, h⟩
            · rw [if_neg c] at h
              refine jr_aload_n dX12_soonest_63 rfl rfl ?_
              refine jr_geta ff_X12_46 ks_71 rr_71_27 dX12_soonest_64 ?_
              refine jr_iload_n dX12_soonest_67 rfl rfl ?_
              obtain ⟨g3, h⟩ := h
              refine jv_iaload rfl rfl ks_82 dX12_soonest_68 g3 ?_
              refine jr_goto dX12_soonest_69 (tgt := 74) (by decide) ?_
              exact jr_ireturn dX12_soonest_74 ⟨Or.inr (Or.inl ⟨rfl, _, rfl⟩), _, _, rfl, h⟩
          · rw [if_neg c] at h
            refine jr_aload_n dX12_soonest_50 rfl rfl ?_
            refine jv_geti rfl ff_X12_290 ks_71 dX12_soonest_51 ?_
            exact jr_ireturn dX12_soonest_54 ⟨Or.inr (Or.inl ⟨rfl, _, rfl⟩), _, _, rfl, h⟩
      · rw [if_neg c] at h
        refine jr_bipush dX12_soonest_23 kbp_m5 ?_
        exact jr_ireturn dX12_soonest_25 ⟨Or.inr (Or.inl ⟨rfl, _, rfl⟩), _, _, rfl, h⟩
    · rw [if_neg c] at h
      refine jr_iconst dX12_soonest_13 kic_m1 ?_
      exact jr_ireturn dX12_soonest_14 ⟨Or.inr (Or.inl ⟨rfl, _, rfl⟩), _, _, rfl, h⟩
def wX12_strength_65 (G : jG) (l : Launch) (d : Nat) (k46 : Int32 → Int32 → Int32 → Int32 → Int32 → jS → jL → Prop) (Q : Option Value → jS → jL → Prop) : Nat → Int32 → Int32 → Int32 → Int32 → Int32 → jS → jL → Prop
  | 0, _, _, _, _, _, _, _ => False
  | n65 + 1, x1, x2, x3, x5, x6, I, L => if (24 : Int32) ≤ x6 then (cI G l mX12_overOf d [.ref 71, .int x1, .int x2, .int x3] (u2 I 71 23 x5) L (fun r1 I1 L1 => (if r1 = x3 then (k46 x1 x2 x3 x5 (x5 + (1 : Int32)) I1 L1) else (k46 x1 x2 x3 (-2 : Int32) (x5 + (1 : Int32)) I1 L1)))) else (vp_in x6 24 ∧ ((wX12_strength_65 G l d k46 Q n65) x1 x2 x3 x5 (x6 + (1 : Int32)) (u2 I 80 x6.toNatClampNeg (0 : Int32)) L))
set_option maxRecDepth 100000 in
set_option maxHeartbeats 4000000 in
theorem wX12_strength_65_ok {G : jG} {l : Launch} {d : Nat} {Q : Option Value → jS → jL → Prop} {k46 : Int32 → Int32 → Int32 → Int32 → Int32 → jS → jL → Prop} (hk46 : ∀ (x1 : Int32) (x2 : Int32) (x3 : Int32) (x4 : Int32) (x5 : Int32) (I : jS) (L : jL), k46 x1 x2 x3 x4 x5 I L → J G l yX12_strength cX12_strength 7 (d + 1) 0 0 46 [some (.ref 71), some (.int x1), some (.int x2), some (.int x3), some (.int x4), some (.int x5), none] [] (jKS, I, L, jR0) (jQm (some .int) Q)) : ∀ (n : Nat) (x1 : Int32) (x2 : Int32) (x3 : Int32) (x5 : Int32) (x6 : Int32) (I : jS) (L : jL), wX12_strength_65 G l d k46 Q n x1 x2 x3 x5 x6 I L → J G l yX12_strength cX12_strength 7 (d + 1) 0 0 65 [some (.ref 71), some (.int x1), some (.int x2), some (.int x3), none, some (.int x5), some (.int x6)] [] (jKS, I, L, jR0) (jQm (some .int) Q) := by
  intro n
  induction n with
  | zero => intro x1 x2 x3 x5 x6 I L h; exact h.elim
  | succ n ih =>
    intro x1 x2 x3 x5 x6 I L h
    rw [wX12_strength_65] at h
    refine jr_iload dX12_strength_65 rfl ?_
    refine jr_bipush dX12_strength_67 kbp_24 ?_
    refine jr_icmp_ge dX12_strength_69 (tgt := 86) (by decide) (fun c => ?_) (fun c => ?_)
    · rw [if_pos c] at h
      refine jr_aload_n dX12_strength_86 rfl rfl ?_
      refine jr_iload dX12_strength_87 rfl ?_
      refine jr_puti ff_X12_39 ks_71 dX12_strength_89 ?_
      refine jr_aload_n dX12_strength_92 rfl rfl ?_
      refine jr_iload_n dX12_strength_93 rfl rfl ?_
      refine jr_iload_n dX12_strength_94 rfl rfl ?_
      refine jr_iload_n dX12_strength_95 rfl rfl ?_
      refine jr_callV (mc2 := 0) (mc := 0) (ms2 := 0) (ms := 0) vm_X12_261 (av := [.int x1, .int x2, .int x3]) (st := []) rfl rfl ks_71 (by decide) rfl (Nat.le_of_ble_eq_true rfl) dX12_strength_96 (cI_use (M := (yX12_overOf, cX12_overOf, 7, some .int)) h ?_)
      intro r1 I1 L1 h
      refine jr_iload_n dX12_strength_99 rfl rfl ?_
      refine jr_icmp_ne dX12_strength_100 (tgt := 108) (by decide) (fun c => ?_) (fun c => ?_)
      · rw [if_neg c] at h
        refine jr_bipush dX12_strength_108 kbp_m2 ?_
        refine jr_istore dX12_strength_110 (by decide) rfl ?_
        refine jr_iinc dX12_strength_112 rfl (by rw [kic_1]) (by decide) rfl ?_
        refine jr_goto dX12_strength_115 (tgt := 46) (by decide) ?_
        exact J.sub (hk46 _ _ _ _ _ _ _ h) (jsub_some (jsub_some (jsub_some (jsub_some (jsub_some (jsub_some (jsub_none jsub_nil)))))))
      · rw [if_pos c] at h
        refine jr_iload dX12_strength_103 rfl ?_
        refine jr_goto dX12_strength_105 (tgt := 110) (by decide) ?_
        refine jr_istore dX12_strength_110 (by decide) rfl ?_
        refine jr_iinc dX12_strength_112 rfl (by rw [kic_1]) (by decide) rfl ?_
        refine jr_goto dX12_strength_115 (tgt := 46) (by decide) ?_
        exact J.sub (hk46 _ _ _ _ _ _ _ h) (jsub_some (jsub_some (jsub_some (jsub_some (jsub_some (jsub_some (jsub_none jsub_nil)))))))
    · rw [if_neg c] at h
      refine jr_aload_n dX12_strength_72 rfl rfl ?_
      refine jr_geta ff_X12_36 ks_71 rr_71_19 dX12_strength_73 ?_
      refine jr_iload dX12_strength_76 rfl ?_
      refine jr_iconst dX12_strength_78 kic_0 ?_
      obtain ⟨g2, h⟩ := h
      refine jr_iastore rfl ks_80 dX12_strength_79 g2 ?_
      refine jr_iinc dX12_strength_80 rfl (by rw [kic_1]) (by decide) rfl ?_
      refine jr_goto dX12_strength_83 (tgt := 65) (by decide) ?_
      exact J.sub (ih _ _ _ _ _ _ _ h) (jsub_some (jsub_some (jsub_some (jsub_some (jsub_none (jsub_some (jsub_some jsub_nil)))))))
def wX12_strength_118 (G : jG) (l : Launch) (d : Nat) (Q : Option Value → jS → jL → Prop) (x4 : Int32) (I : jS) (L : jL) : Prop := Q (some (.int x4)) (u2 I 71 23 (-1 : Int32)) L
set_option maxRecDepth 100000 in
set_option maxHeartbeats 4000000 in
theorem wX12_strength_118_ok {G : jG} {l : Launch} {d : Nat} {Q : Option Value → jS → jL → Prop} : ∀ (x4 : Int32) (I : jS) (L : jL), wX12_strength_118 G l d Q x4 I L → J G l yX12_strength cX12_strength 7 (d + 1) 0 0 118 [some (.ref 71), none, none, none, some (.int x4), none, none] [] (jKS, I, L, jR0) (jQm (some .int) Q) := by
  intro x4 I L h
  rw [wX12_strength_118] at h
  refine jr_aload_n dX12_strength_118 rfl rfl ?_
  refine jr_iconst dX12_strength_119 kic_m1 ?_
  refine jr_puti ff_X12_39 ks_71 dX12_strength_120 ?_
  refine jr_iload dX12_strength_123 rfl ?_
  exact jr_ireturn dX12_strength_125 ⟨Or.inr (Or.inl ⟨rfl, _, rfl⟩), _, _, rfl, h⟩
def wX12_strength_46 (G : jG) (l : Launch) (d : Nat) (Q : Option Value → jS → jL → Prop) : Nat → Int32 → Int32 → Int32 → Int32 → Int32 → jS → jL → Prop
  | 0, _, _, _, _, _, _, _ => False
  | n46 + 1, x1, x2, x3, x4, x5, I, L => if (99 : Int32) < x5 then (wX12_strength_118 G l d Q x4 I L) else (if 0 ≤ x4 then (wX12_strength_118 G l d Q x4 I L) else (cV G l mX12_begins1 d [.ref 71] I L (fun I1 L1 => (∃ e65 : Nat, wX12_strength_65 G l d (fun z0 z1 z2 z3 z4 I L => wX12_strength_46 G l d Q n46 z0 z1 z2 z3 z4 I L) Q e65 x1 x2 x3 x5 (0 : Int32) I1 L1))))
set_option maxRecDepth 100000 in
set_option maxHeartbeats 4000000 in
theorem wX12_strength_46_ok {G : jG} {l : Launch} {d : Nat} {Q : Option Value → jS → jL → Prop} : ∀ (n : Nat) (x1 : Int32) (x2 : Int32) (x3 : Int32) (x4 : Int32) (x5 : Int32) (I : jS) (L : jL), wX12_strength_46 G l d Q n x1 x2 x3 x4 x5 I L → J G l yX12_strength cX12_strength 7 (d + 1) 0 0 46 [some (.ref 71), some (.int x1), some (.int x2), some (.int x3), some (.int x4), some (.int x5), none] [] (jKS, I, L, jR0) (jQm (some .int) Q) := by
  intro n
  induction n with
  | zero => intro x1 x2 x3 x4 x5 I L h; exact h.elim
  | succ n ih =>
    intro x1 x2 x3 x4 x5 I L h
    rw [wX12_strength_46] at h
    refine jr_iload dX12_strength_46 rfl ?_
    refine jr_bipush dX12_strength_48 kbp_99 ?_
    refine jr_icmp_gt dX12_strength_50 (tgt := 118) (by decide) (fun c => ?_) (fun c => ?_)
    · rw [if_pos c] at h
      exact J.sub (wX12_strength_118_ok  _ _ _ h) (jsub_some (jsub_none (jsub_none (jsub_none (jsub_some (jsub_none (jsub_none jsub_nil)))))))
    · rw [if_neg c] at h
      refine jr_iload dX12_strength_53 rfl ?_
      refine jr_if_ge dX12_strength_55 (tgt := 118) (by decide) (fun c => ?_) (fun c => ?_)
      · rw [if_pos c] at h
        exact J.sub (wX12_strength_118_ok  _ _ _ h) (jsub_some (jsub_none (jsub_none (jsub_none (jsub_some (jsub_none (jsub_none jsub_nil)))))))
      · rw [if_neg c] at h
        refine jr_aload_n dX12_strength_58 rfl rfl ?_
        refine jr_callV (mc2 := 0) (mc := 0) (ms2 := 0) (ms := 0) vm_X12_146 (av := []) (st := []) rfl rfl ks_71 (by decide) rfl (Nat.le_of_ble_eq_true rfl) dX12_strength_59 (cV_use (M := (yX12_begins1, cX12_begins1, 2, none)) h ?_)
        intro I1 L1 h
        refine jr_iconst dX12_strength_62 kic_0 ?_
        refine jr_istore dX12_strength_63 (by decide) rfl ?_
        obtain ⟨e65, h⟩ := h
        exact J.sub (wX12_strength_65_ok  ih e65 _ _ _ _ _ _ _ h) (jsub_some (jsub_some (jsub_some (jsub_some (jsub_none (jsub_some (jsub_some jsub_nil)))))))
def wX12_strength (G : jG) (l : Launch) (d : Nat) (x1 : Int32) (x2 : Int32) (I : jS) (L : jL) (Q : Option Value → jS → jL → Prop) : Prop := cI G l mX12_bytesIs d [.ref 71, .int x1] I L (fun r1 I1 L1 => (if r1 = (-1 : Int32) then (Q (some (.int (-1 : Int32))) I1 L1) else (cI G l mX12_isWay d [.long (x2.toInt64)] I1 L1 (fun r2 I2 L2 => (if r2 = 0 then (Q (some (.int (-1 : Int32))) I2 L2) else (cI G l mX12_bytesIs d [.ref 71, .int x1] I2 L2 (fun r3 I3 L3 => (if 0 ≤ r3 then (cI G l mX12_orderedOf d [.ref 71, .int x1] I3 L3 (fun r4 I4 L4 => (∃ e46 : Nat, wX12_strength_46 G l d Q e46 x1 x2 r4 (-2 : Int32) (0 : Int32) I4 L4))) else (cI G l mX12_bytesIs d [.ref 71, .int x1] I3 L3 (fun r5 I5 L5 => (Q (some (.int r5)) I5 L5)))))))))))
set_option maxRecDepth 100000 in
set_option maxHeartbeats 4000000 in
theorem wX12_strength_ok {G : jG} {l : Launch} {d : Nat} {Q : Option Value → jS → jL → Prop} {x1 : Int32} {x2 : Int32} {I : jS} {L : jL} (h : wX12_strength G l d x1 x2 I L Q) : cM G l mX12_strength (d + 1) [.ref 71, .int x1, .int x2] I L Q := by
  rw [wX12_strength] at h
  show jCall G l yX12_strength cX12_strength 7 (some .int) (d + 1) 0 0 _ (jKS, I, L, jR0) _
  refine jCall_of (n0 := 4) (ls := [some (.ref 71), some (.int x1), some (.int x2), none, none, none, none]) (by decide +kernel) rfl (Nat.le_of_ble_eq_true rfl) (jQm_of ?_)
  refine jr_aload_n dX12_strength_0 rfl rfl ?_
  refine jr_iload_n dX12_strength_1 rfl rfl ?_
  refine jr_callV (mc2 := 0) (mc := 0) (ms2 := 0) (ms := 0) vm_X12_252 (av := [.int x1]) (st := []) rfl rfl ks_71 (by decide) rfl (Nat.le_of_ble_eq_true rfl) dX12_strength_2 (cI_use (M := (yX12_bytesIs, cX12_bytesIs, 2, some .int)) h ?_)
  intro r1 I1 L1 h
  refine jr_iconst dX12_strength_5 kic_m1 ?_
  refine jr_icmp_eq dX12_strength_6 (tgt := 17) (by decide) (fun c => ?_) (fun c => ?_)
  · rw [if_pos c] at h
    refine jr_iconst dX12_strength_17 kic_m1 ?_
    exact jr_ireturn dX12_strength_18 ⟨Or.inr (Or.inl ⟨rfl, _, rfl⟩), _, _, rfl, h⟩
  · rw [if_neg c] at h
    refine jr_iload_n dX12_strength_9 rfl rfl ?_
    refine jr_i2l dX12_strength_10 ?_
    refine jr_callS (mc2 := 0) (mc := 0) (ms2 := 0) (ms := 0) vm_X12_255 (av := [.long (x2.toInt64)]) (st := []) rfl rfl (Nat.le_of_ble_eq_true rfl) dX12_strength_11 (cI_use (M := (yX12_isWay, cX12_isWay, 2, some .boolean)) h ?_)
    intro r2 I2 L2 h
    refine jr_if_ne dX12_strength_14 (tgt := 19) (by decide) (fun c => ?_) (fun c => ?_)
    · rw [if_neg c] at h
      refine jr_aload_n dX12_strength_19 rfl rfl ?_
      refine jr_iload_n dX12_strength_20 rfl rfl ?_
      refine jr_callV (mc2 := 0) (mc := 0) (ms2 := 0) (ms := 0) vm_X12_252 (av := [.int x1]) (st := []) rfl rfl ks_71 (by decide) rfl (Nat.le_of_ble_eq_true rfl) dX12_strength_21 (cI_use (M := (yX12_bytesIs, cX12_bytesIs, 2, some .int)) h ?_)
      intro r3 I3 L3 h
      refine jr_if_ge dX12_strength_24 (tgt := 33) (by decide) (fun c => ?_) (fun c => ?_)
      · rw [if_pos c] at h
        refine jr_aload_n dX12_strength_33 rfl rfl ?_
        refine jr_iload_n dX12_strength_34 rfl rfl ?_
        refine jr_callV (mc2 := 0) (mc := 0) (ms2 := 0) (ms := 0) vm_X12_258 (av := [.int x1]) (st := []) rfl rfl ks_71 (by decide) rfl (Nat.le_of_ble_eq_true rfl) dX12_strength_35 (cI_use (M := (yX12_orderedOf, cX12_orderedOf, 3, some .int)) h ?_)
        intro r4 I4 L4 h
        refine jr_istore_n dX12_strength_38 rfl (by decide) rfl ?_
        refine jr_bipush dX12_strength_39 kbp_m2 ?_
        refine jr_istore dX12_strength_41 (by decide) rfl ?_
        refine jr_iconst dX12_strength_43 kic_0 ?_
        refine jr_istore dX12_strength_44 (by decide) rfl ?_
        obtain ⟨e46, h⟩ := h
        exact J.sub (wX12_strength_46_ok  e46 _ _ _ _ _ _ _ h) (jsub_some (jsub_some (jsub_some (jsub_some (jsub_some (jsub_some (jsub_none jsub_nil)))))))
      · rw [if_neg c] at h
        refine jr_aload_n dX12_strength_27 rfl rfl ?_
        refine jr_iload_n dX12_strength_28 rfl rfl ?_
        refine jr_callV (mc2 := 0) (mc := 0) (ms2 := 0) (ms := 0) vm_X12_252 (av := [.int x1]) (st := []) rfl rfl ks_71 (by decide) rfl (Nat.le_of_ble_eq_true rfl) dX12_strength_29 (cI_use (M := (yX12_bytesIs, cX12_bytesIs, 2, some .int)) h ?_)
        intro r5 I5 L5 h
        exact jr_ireturn dX12_strength_32 ⟨Or.inr (Or.inl ⟨rfl, _, rfl⟩), _, _, rfl, h⟩
    · rw [if_pos c] at h
      refine jr_iconst dX12_strength_17 kic_m1 ?_
      exact jr_ireturn dX12_strength_18 ⟨Or.inr (Or.inl ⟨rfl, _, rfl⟩), _, _, rfl, h⟩
def wX12_loadOf_62 (G : jG) (l : Launch) (d : Nat) (k26 : Int32 → Int32 → Int32 → Int32 → Int32 → Int32 → jS → jL → Prop) (Q : Option Value → jS → jL → Prop) (x1 : Int32) (x2 : Int32) (x4 : Int32) (x5 : Int32) (x6 : Int32) (x7 : Int32) (t1 : Int32) (I : jS) (L : jL) : Prop := (t1 = 0 ∨ t1 = 1) ∧ (if t1 = 0 then (k26 x1 x2 x4 x5 x6 (x7 + (1 : Int32)) (u2 I 71 32 t1) L) else (cI G l mX12_crossesWith d [.ref 71, .int x1, .int x2, .int x5, .int (0 : Int32)] (u2 I 71 32 t1) L (fun r2 I2 L2 => ((r2 = 0 ∨ r2 = 1) ∧ (if r2 = 0 then (k26 x1 x2 x4 x5 (x6 + (0 : Int32)) (x7 + (1 : Int32)) (u2 I2 71 32 r2) L2) else (k26 x1 x2 x4 x5 (x6 + (1 : Int32)) (x7 + (1 : Int32)) (u2 I2 71 32 r2) L2))))))
set_option maxRecDepth 100000 in
set_option maxHeartbeats 4000000 in
theorem wX12_loadOf_62_ok {G : jG} {l : Launch} {d : Nat} {Q : Option Value → jS → jL → Prop} {k26 : Int32 → Int32 → Int32 → Int32 → Int32 → Int32 → jS → jL → Prop} (hk26 : ∀ (x1 : Int32) (x2 : Int32) (x4 : Int32) (x5 : Int32) (x6 : Int32) (x7 : Int32) (I : jS) (L : jL), k26 x1 x2 x4 x5 x6 x7 I L → J G l yX12_loadOf cX12_loadOf 8 (d + 1) 0 0 26 [some (.ref 71), some (.int x1), some (.int x2), none, some (.int x4), some (.int x5), some (.int x6), some (.int x7)] [] (jKS, I, L, jR0) (jQm (some .int) Q)) : ∀ (x1 : Int32) (x2 : Int32) (x4 : Int32) (x5 : Int32) (x6 : Int32) (x7 : Int32) (t1 : Int32) (I : jS) (L : jL), wX12_loadOf_62 G l d k26 Q x1 x2 x4 x5 x6 x7 t1 I L → J G l yX12_loadOf cX12_loadOf 8 (d + 1) 0 0 62 [some (.ref 71), some (.int x1), some (.int x2), none, some (.int x4), some (.int x5), some (.int x6), some (.int x7)] [.int t1, .ref 71] (jKS, I, L, jR0) (jQm (some .int) Q) := by
  intro x1 x2 x4 x5 x6 x7 t1 I L h
  rw [wX12_loadOf_62] at h
  obtain ⟨g1, h⟩ := h
  refine jr_putz ff_X12_296 ks_71 g1 dX12_loadOf_62 ?_
  refine jr_aload_n dX12_loadOf_65 rfl rfl ?_
  refine jv_geti u2e ff_X12_296 ks_71 dX12_loadOf_66 ?_
  refine jr_if_eq dX12_loadOf_69 (tgt := 102) (by decide) (fun c => ?_) (fun c => ?_)
  · rw [if_pos c] at h
    refine jr_iinc dX12_loadOf_102 rfl (by rw [kic_1]) (by decide) rfl ?_
    refine jr_goto dX12_loadOf_105 (tgt := 26) (by decide) ?_
    exact J.sub (hk26 _ _ _ _ _ _ _ _ h) (jsub_some (jsub_some (jsub_some (jsub_none (jsub_some (jsub_some (jsub_some (jsub_some jsub_nil))))))))
  · rw [if_neg c] at h
    refine jr_aload_n dX12_loadOf_72 rfl rfl ?_
    refine jr_aload_n dX12_loadOf_73 rfl rfl ?_
    refine jr_iload_n dX12_loadOf_74 rfl rfl ?_
    refine jr_iload_n dX12_loadOf_75 rfl rfl ?_
    refine jr_iload dX12_loadOf_76 rfl ?_
    refine jr_iconst dX12_loadOf_78 kic_0 ?_
    refine jr_callV (mc2 := 0) (mc := 0) (ms2 := 0) (ms := 0) vm_X12_239 (av := [.int x1, .int x2, .int x5, .int (0 : Int32)]) (st := [.ref 71]) rfl rfl ks_71 (by decide) rfl (Nat.le_of_ble_eq_true rfl) dX12_loadOf_79 (cI_use (M := (yX12_crossesWith, cX12_crossesWith, 13, some .boolean)) h ?_)
    intro r2 I2 L2 h
    obtain ⟨g3, h⟩ := h
    refine jr_putz ff_X12_296 ks_71 g3 dX12_loadOf_82 ?_
    refine jr_iload dX12_loadOf_85 rfl ?_
    refine jr_aload_n dX12_loadOf_87 rfl rfl ?_
    refine jv_geti u2e ff_X12_296 ks_71 dX12_loadOf_88 ?_
    refine jr_if_eq dX12_loadOf_91 (tgt := 98) (by decide) (fun c => ?_) (fun c => ?_)
    · rw [if_pos c] at h
      refine jr_iconst dX12_loadOf_98 kic_0 ?_
      refine jr_iadd dX12_loadOf_99 ?_
      refine jr_istore dX12_loadOf_100 (by decide) rfl ?_
      refine jr_iinc dX12_loadOf_102 rfl (by rw [kic_1]) (by decide) rfl ?_
      refine jr_goto dX12_loadOf_105 (tgt := 26) (by decide) ?_
      exact J.sub (hk26 _ _ _ _ _ _ _ _ h) (jsub_some (jsub_some (jsub_some (jsub_none (jsub_some (jsub_some (jsub_some (jsub_some jsub_nil))))))))
    · rw [if_neg c] at h
      refine jr_iconst dX12_loadOf_94 kic_1 ?_
      refine jr_goto dX12_loadOf_95 (tgt := 99) (by decide) ?_
      refine jr_iadd dX12_loadOf_99 ?_
      refine jr_istore dX12_loadOf_100 (by decide) rfl ?_
      refine jr_iinc dX12_loadOf_102 rfl (by rw [kic_1]) (by decide) rfl ?_
      refine jr_goto dX12_loadOf_105 (tgt := 26) (by decide) ?_
      exact J.sub (hk26 _ _ _ _ _ _ _ _ h) (jsub_some (jsub_some (jsub_some (jsub_none (jsub_some (jsub_some (jsub_some (jsub_some jsub_nil))))))))
def wX12_loadOf_57 (G : jG) (l : Launch) (d : Nat) (k26 : Int32 → Int32 → Int32 → Int32 → Int32 → Int32 → jS → jL → Prop) (Q : Option Value → jS → jL → Prop) (x1 : Int32) (x2 : Int32) (x4 : Int32) (x5 : Int32) (x6 : Int32) (x7 : Int32) (I : jS) (L : jL) : Prop := wX12_loadOf_62 G l d k26 Q x1 x2 x4 x5 x6 x7 (1 : Int32) I L
set_option maxRecDepth 100000 in
set_option maxHeartbeats 4000000 in
theorem wX12_loadOf_57_ok {G : jG} {l : Launch} {d : Nat} {Q : Option Value → jS → jL → Prop} {k26 : Int32 → Int32 → Int32 → Int32 → Int32 → Int32 → jS → jL → Prop} (hk26 : ∀ (x1 : Int32) (x2 : Int32) (x4 : Int32) (x5 : Int32) (x6 : Int32) (x7 : Int32) (I : jS) (L : jL), k26 x1 x2 x4 x5 x6 x7 I L → J G l yX12_loadOf cX12_loadOf 8 (d + 1) 0 0 26 [some (.ref 71), some (.int x1), some (.int x2), none, some (.int x4), some (.int x5), some (.int x6), some (.int x7)] [] (jKS, I, L, jR0) (jQm (some .int) Q)) : ∀ (x1 : Int32) (x2 : Int32) (x4 : Int32) (x5 : Int32) (x6 : Int32) (x7 : Int32) (I : jS) (L : jL), wX12_loadOf_57 G l d k26 Q x1 x2 x4 x5 x6 x7 I L → J G l yX12_loadOf cX12_loadOf 8 (d + 1) 0 0 57 [some (.ref 71), some (.int x1), some (.int x2), none, some (.int x4), some (.int x5), some (.int x6), some (.int x7)] [.ref 71] (jKS, I, L, jR0) (jQm (some .int) Q) := by
  intro x1 x2 x4 x5 x6 x7 I L h
  rw [wX12_loadOf_57] at h
  refine jr_iconst dX12_loadOf_57 kic_1 ?_
  refine jr_goto dX12_loadOf_58 (tgt := 62) (by decide) ?_
  exact J.sub (wX12_loadOf_62_ok  hk26 _ _ _ _ _ _ _ _ _ h) (jsub_some (jsub_some (jsub_some (jsub_none (jsub_some (jsub_some (jsub_some (jsub_some jsub_nil))))))))
def wX12_loadOf_26 (G : jG) (l : Launch) (d : Nat) (Q : Option Value → jS → jL → Prop) : Nat → Int32 → Int32 → Int32 → Int32 → Int32 → Int32 → jS → jL → Prop
  | 0, _, _, _, _, _, _, _, _ => False
  | n26 + 1, x1, x2, x4, x5, x6, x7, I, L => if x4 ≤ x7 then (Q (some (.int x6)) I L) else (if (I 71 32) = 0 then (Q (some (.int x6)) I L) else (if x7 = 0 then (wX12_loadOf_57 G l d (fun z0 z1 z2 z3 z4 z5 I L => wX12_loadOf_26 G l d Q n26 z0 z1 z2 z3 z4 z5 I L) Q x1 x2 x4 x5 x6 x7 I L) else (cI G l mX12_crossesWith d [.ref 71, .int x1, .int x2, .int (0 : Int32), .int (1 : Int32)] I L (fun r1 I1 L1 => (if r1 = 0 then (wX12_loadOf_62 G l d (fun z0 z1 z2 z3 z4 z5 I L => wX12_loadOf_26 G l d Q n26 z0 z1 z2 z3 z4 z5 I L) Q x1 x2 x4 x5 x6 x7 (0 : Int32) I1 L1) else (wX12_loadOf_57 G l d (fun z0 z1 z2 z3 z4 z5 I L => wX12_loadOf_26 G l d Q n26 z0 z1 z2 z3 z4 z5 I L) Q x1 x2 x4 x5 x6 x7 I1 L1))))))
set_option maxRecDepth 100000 in
set_option maxHeartbeats 4000000 in
theorem wX12_loadOf_26_ok {G : jG} {l : Launch} {d : Nat} {Q : Option Value → jS → jL → Prop} : ∀ (n : Nat) (x1 : Int32) (x2 : Int32) (x4 : Int32) (x5 : Int32) (x6 : Int32) (x7 : Int32) (I : jS) (L : jL), wX12_loadOf_26 G l d Q n x1 x2 x4 x5 x6 x7 I L → J G l yX12_loadOf cX12_loadOf 8 (d + 1) 0 0 26 [some (.ref 71), some (.int x1), some (.int x2), none, some (.int x4), some (.int x5), some (.int x6), some (.int x7)] [] (jKS, I, L, jR0) (jQm (some .int) Q) := by
  intro n
  induction n with
  | zero => intro x1 x2 x4 x5 x6 x7 I L h; exact h.elim
  | succ n ih =>
    intro x1 x2 x4 x5 x6 x7 I L h
    rw [wX12_loadOf_26] at h
    refine jr_iload dX12_loadOf_26 rfl ?_
    refine jr_iload dX12_loadOf_28 rfl ?_
    refine jr_icmp_ge dX12_loadOf_30 (tgt := 108) (by decide) (fun c => ?_) (fun c => ?_)
    · rw [if_pos c] at h
      refine jr_iload dX12_loadOf_108 rfl ?_
      exact jr_ireturn dX12_loadOf_110 ⟨Or.inr (Or.inl ⟨rfl, _, rfl⟩), _, _, rfl, h⟩
    · rw [if_neg c] at h
      refine jr_aload_n dX12_loadOf_33 rfl rfl ?_
      refine jv_geti rfl ff_X12_296 ks_71 dX12_loadOf_34 ?_
      refine jr_if_eq dX12_loadOf_37 (tgt := 108) (by decide) (fun c => ?_) (fun c => ?_)
      · rw [if_pos c] at h
        refine jr_iload dX12_loadOf_108 rfl ?_
        exact jr_ireturn dX12_loadOf_110 ⟨Or.inr (Or.inl ⟨rfl, _, rfl⟩), _, _, rfl, h⟩
      · rw [if_neg c] at h
        refine jr_aload_n dX12_loadOf_40 rfl rfl ?_
        refine jr_iload dX12_loadOf_41 rfl ?_
        refine jr_if_eq dX12_loadOf_43 (tgt := 57) (by decide) (fun c => ?_) (fun c => ?_)
        · rw [if_pos c] at h
          exact J.sub (wX12_loadOf_57_ok  ih _ _ _ _ _ _ _ _ h) (jsub_some (jsub_some (jsub_some (jsub_none (jsub_some (jsub_some (jsub_some (jsub_some jsub_nil))))))))
        · rw [if_neg c] at h
          refine jr_aload_n dX12_loadOf_46 rfl rfl ?_
          refine jr_iload_n dX12_loadOf_47 rfl rfl ?_
          refine jr_iload_n dX12_loadOf_48 rfl rfl ?_
          refine jr_iconst dX12_loadOf_49 kic_0 ?_
          refine jr_iconst dX12_loadOf_50 kic_1 ?_
          refine jr_callV (mc2 := 0) (mc := 0) (ms2 := 0) (ms := 0) vm_X12_239 (av := [.int x1, .int x2, .int (0 : Int32), .int (1 : Int32)]) (st := [.ref 71]) rfl rfl ks_71 (by decide) rfl (Nat.le_of_ble_eq_true rfl) dX12_loadOf_51 (cI_use (M := (yX12_crossesWith, cX12_crossesWith, 13, some .boolean)) h ?_)
          intro r1 I1 L1 h
          refine jr_if_eq dX12_loadOf_54 (tgt := 61) (by decide) (fun c => ?_) (fun c => ?_)
          · rw [if_pos c] at h
            refine jr_iconst dX12_loadOf_61 kic_0 ?_
            exact J.sub (wX12_loadOf_62_ok  ih _ _ _ _ _ _ _ _ _ h) (jsub_some (jsub_some (jsub_some (jsub_none (jsub_some (jsub_some (jsub_some (jsub_some jsub_nil))))))))
          · rw [if_neg c] at h
            exact J.sub (wX12_loadOf_57_ok  ih _ _ _ _ _ _ _ _ h) (jsub_some (jsub_some (jsub_some (jsub_none (jsub_some (jsub_some (jsub_some (jsub_some jsub_nil))))))))
def wX12_loadOf (G : jG) (l : Launch) (d : Nat) (x1 : Int32) (x2 : Int32) (x3 : Int32) (x4 : Int32) (I : jS) (L : jL) (Q : Option Value → jS → jL → Prop) : Prop := ¬ x4 = 0 ∧ (cV G l mX12_begins1 d [.ref 71] I L (fun I2 L2 => (∃ e26 : Nat, wX12_loadOf_26 G l d Q e26 x1 x2 x4 (((x3 + x4) - (1 : Int32)) / x4) (0 : Int32) (0 : Int32) (u2 I2 71 32 (1 : Int32)) L2)))
set_option maxRecDepth 100000 in
set_option maxHeartbeats 4000000 in
theorem wX12_loadOf_ok {G : jG} {l : Launch} {d : Nat} {Q : Option Value → jS → jL → Prop} {x1 : Int32} {x2 : Int32} {x3 : Int32} {x4 : Int32} {I : jS} {L : jL} (h : wX12_loadOf G l d x1 x2 x3 x4 I L Q) : cM G l mX12_loadOf (d + 1) [.ref 71, .int x1, .int x2, .int x3, .int x4] I L Q := by
  rw [wX12_loadOf] at h
  show jCall G l yX12_loadOf cX12_loadOf 8 (some .int) (d + 1) 0 0 _ (jKS, I, L, jR0) _
  refine jCall_of (n0 := 3) (ls := [some (.ref 71), some (.int x1), some (.int x2), some (.int x3), some (.int x4), none, none, none]) (by decide +kernel) rfl (Nat.le_of_ble_eq_true rfl) (jQm_of ?_)
  refine jr_iload_n dX12_loadOf_0 rfl rfl ?_
  refine jr_iload dX12_loadOf_1 rfl ?_
  refine jr_iadd dX12_loadOf_3 ?_
  refine jr_iconst dX12_loadOf_4 kic_1 ?_
  refine jr_isub dX12_loadOf_5 ?_
  refine jr_iload dX12_loadOf_6 rfl ?_
  obtain ⟨g1, h⟩ := h
  refine jr_idiv dX12_loadOf_8 g1 ?_
  refine jr_istore dX12_loadOf_9 (by decide) rfl ?_
  refine jr_iconst dX12_loadOf_11 kic_0 ?_
  refine jr_istore dX12_loadOf_12 (by decide) rfl ?_
  refine jr_aload_n dX12_loadOf_14 rfl rfl ?_
  refine jr_callV (mc2 := 0) (mc := 0) (ms2 := 0) (ms := 0) vm_X12_146 (av := []) (st := []) rfl rfl ks_71 (by decide) rfl (Nat.le_of_ble_eq_true rfl) dX12_loadOf_15 (cV_use (M := (yX12_begins1, cX12_begins1, 2, none)) h ?_)
  intro I2 L2 h
  refine jr_aload_n dX12_loadOf_18 rfl rfl ?_
  refine jr_iconst dX12_loadOf_19 kic_1 ?_
  refine jr_putz ff_X12_296 ks_71 (Or.inr rfl) dX12_loadOf_20 ?_
  refine jr_iconst dX12_loadOf_23 kic_0 ?_
  refine jr_istore dX12_loadOf_24 (by decide) rfl ?_
  obtain ⟨e26, h⟩ := h
  exact J.sub (wX12_loadOf_26_ok  e26 _ _ _ _ _ _ _ _ h) (jsub_some (jsub_some (jsub_some (jsub_none (jsub_some (jsub_some (jsub_some (jsub_some jsub_nil))))))))
def wX12_load_75 (G : jG) (l : Launch) (d : Nat) (Q : Option Value → jS → jL → Prop) : Nat → Int32 → Int32 → Int32 → jS → jL → Prop
  | 0, _, _, _, _, _ => False
  | n75 + 1, x1, x2, x4, I, L => if (9 : Int32) < x4 then (Q (some (.int (-2 : Int32))) I L) else (cI G l mX12_loadOf d [.ref 71, .int (x1 / (10 : Int32)), .int (x1 - x1 / (10 : Int32) * (10 : Int32)), .int x2, .int x4] I L (fun r1 I1 L1 => (if (I1 71 32) = 0 then ((wX12_load_75 G l d Q n75) x1 x2 (x4 + (1 : Int32)) I1 L1) else (Q (some (.int x4)) I1 L1))))
set_option maxRecDepth 100000 in
set_option maxHeartbeats 4000000 in
theorem wX12_load_75_ok {G : jG} {l : Launch} {d : Nat} {Q : Option Value → jS → jL → Prop} : ∀ (n : Nat) (x1 : Int32) (x2 : Int32) (x4 : Int32) (I : jS) (L : jL), wX12_load_75 G l d Q n x1 x2 x4 I L → J G l yX12_load cX12_load 5 (d + 1) 0 0 75 [some (.ref 71), some (.int x1), some (.int x2), none, some (.int x4)] [] (jKS, I, L, jR0) (jQm (some .int) Q) := by
  intro n
  induction n with
  | zero => intro x1 x2 x4 I L h; exact h.elim
  | succ n ih =>
    intro x1 x2 x4 I L h
    rw [wX12_load_75] at h
    refine jr_iload dX12_load_75 rfl ?_
    refine jr_bipush dX12_load_77 kbp_9 ?_
    refine jr_icmp_gt dX12_load_79 (tgt := 114) (by decide) (fun c => ?_) (fun c => ?_)
    · rw [if_pos c] at h
      refine jr_bipush dX12_load_114 kbp_m2 ?_
      exact jr_ireturn dX12_load_116 ⟨Or.inr (Or.inl ⟨rfl, _, rfl⟩), _, _, rfl, h⟩
    · rw [if_neg c] at h
      refine jr_aload_n dX12_load_82 rfl rfl ?_
      refine jr_iload_n dX12_load_83 rfl rfl ?_
      refine jr_bipush dX12_load_84 kbp_10 ?_
      refine jr_idiv dX12_load_86 (by decide) ?_
      refine jr_iload_n dX12_load_87 rfl rfl ?_
      refine jr_bipush dX12_load_88 kbp_10 ?_
      refine jr_irem dX12_load_90 (by decide) ?_
      refine jr_iload_n dX12_load_91 rfl rfl ?_
      refine jr_iload dX12_load_92 rfl ?_
      refine jr_callV (mc2 := 0) (mc := 0) (ms2 := 0) (ms := 0) vm_X12_301 (av := [.int (x1 / (10 : Int32)), .int (x1 - x1 / (10 : Int32) * (10 : Int32)), .int x2, .int x4]) (st := []) rfl rfl ks_71 (by decide) rfl (Nat.le_of_ble_eq_true rfl) dX12_load_94 (cI_use (M := (yX12_loadOf, cX12_loadOf, 8, some .int)) h ?_)
      intro r1 I1 L1 h
      refine jr_pop dX12_load_97 rfl ?_
      refine jr_aload_n dX12_load_98 rfl rfl ?_
      refine jv_geti rfl ff_X12_296 ks_71 dX12_load_99 ?_
      refine jr_if_eq dX12_load_102 (tgt := 108) (by decide) (fun c => ?_) (fun c => ?_)
      · rw [if_pos c] at h
        refine jr_iinc dX12_load_108 rfl (by rw [kic_1]) (by decide) rfl ?_
        refine jr_goto dX12_load_111 (tgt := 75) (by decide) ?_
        exact J.sub (ih _ _ _ _ _ h) (jsub_some (jsub_some (jsub_some (jsub_none (jsub_some jsub_nil)))))
      · rw [if_neg c] at h
        refine jr_iload dX12_load_105 rfl ?_
        exact jr_ireturn dX12_load_107 ⟨Or.inr (Or.inl ⟨rfl, _, rfl⟩), _, _, rfl, h⟩
def wX12_load (G : jG) (l : Launch) (d : Nat) (x1 : Int32) (x2 : Int32) (x3 : Int32) (I : jS) (L : jL) (Q : Option Value → jS → jL → Prop) : Prop := if x1 < 0 then (Q (some (.int (-1 : Int32))) I L) else (cI G l mX12_isGoer d [.ref 71, .long ((x1 / (10 : Int32)).toInt64)] I L (fun r1 I1 L1 => (if r1 = 0 then (Q (some (.int (-1 : Int32))) I1 L1) else (cI G l mX12_isWay d [.long ((x1 - x1 / (10 : Int32) * (10 : Int32)).toInt64)] I1 L1 (fun r2 I2 L2 => (if r2 = 0 then (Q (some (.int (-1 : Int32))) I2 L2) else (cI G l mX12_within d [.long (x2.toInt64), .long (1 : Int64), .long (200 : Int64)] I2 L2 (fun r3 I3 L3 => (if r3 = 0 then (Q (some (.int (-1 : Int32))) I3 L3) else (cI G l mX12_within d [.long (x3.toInt64), .long (0 : Int64), .long (9 : Int64)] I3 L3 (fun r4 I4 L4 => (if r4 = 0 then (Q (some (.int (-1 : Int32))) I4 L4) else (if x3 ≤ 0 then (∃ e75 : Nat, wX12_load_75 G l d Q e75 x1 x2 (1 : Int32) I4 L4) else (cI G l mX12_loadOf d [.ref 71, .int (x1 / (10 : Int32)), .int (x1 - x1 / (10 : Int32) * (10 : Int32)), .int x2, .int x3] I4 L4 (fun r5 I5 L5 => (Q (some (.int r5)) I5 L5))))))))))))))))
set_option maxRecDepth 100000 in
set_option maxHeartbeats 4000000 in
theorem wX12_load_ok {G : jG} {l : Launch} {d : Nat} {Q : Option Value → jS → jL → Prop} {x1 : Int32} {x2 : Int32} {x3 : Int32} {I : jS} {L : jL} (h : wX12_load G l d x1 x2 x3 I L Q) : cM G l mX12_load (d + 1) [.ref 71, .int x1, .int x2, .int x3] I L Q := by
  rw [wX12_load] at h
  show jCall G l yX12_load cX12_load 5 (some .int) (d + 1) 0 0 _ (jKS, I, L, jR0) _
  refine jCall_of (n0 := 1) (ls := [some (.ref 71), some (.int x1), some (.int x2), some (.int x3), none]) (by decide +kernel) rfl (Nat.le_of_ble_eq_true rfl) (jQm_of ?_)
  refine jr_iload_n dX12_load_0 rfl rfl ?_
  refine jr_if_lt dX12_load_1 (tgt := 51) (by decide) (fun c => ?_) (fun c => ?_)
  · rw [if_pos c] at h
    refine jr_iconst dX12_load_51 kic_m1 ?_
    exact jr_ireturn dX12_load_52 ⟨Or.inr (Or.inl ⟨rfl, _, rfl⟩), _, _, rfl, h⟩
  · rw [if_neg c] at h
    refine jr_aload_n dX12_load_4 rfl rfl ?_
    refine jr_iload_n dX12_load_5 rfl rfl ?_
    refine jr_bipush dX12_load_6 kbp_10 ?_
    refine jr_idiv dX12_load_8 (by decide) ?_
    refine jr_i2l dX12_load_9 ?_
    refine jr_callV (mc2 := 0) (mc := 0) (ms2 := 0) (ms := 0) vm_X12_125 (av := [.long ((x1 / (10 : Int32)).toInt64)]) (st := []) rfl rfl ks_71 (by decide) rfl (Nat.le_of_ble_eq_true rfl) dX12_load_10 (cI_use (M := (yX12_isGoer, cX12_isGoer, 3, some .boolean)) h ?_)
    intro r1 I1 L1 h
    refine jr_if_eq dX12_load_13 (tgt := 51) (by decide) (fun c => ?_) (fun c => ?_)
    · rw [if_pos c] at h
      refine jr_iconst dX12_load_51 kic_m1 ?_
      exact jr_ireturn dX12_load_52 ⟨Or.inr (Or.inl ⟨rfl, _, rfl⟩), _, _, rfl, h⟩
    · rw [if_neg c] at h
      refine jr_iload_n dX12_load_16 rfl rfl ?_
      refine jr_bipush dX12_load_17 kbp_10 ?_
      refine jr_irem dX12_load_19 (by decide) ?_
      refine jr_i2l dX12_load_20 ?_
      refine jr_callS (mc2 := 0) (mc := 0) (ms2 := 0) (ms := 0) vm_X12_255 (av := [.long ((x1 - x1 / (10 : Int32) * (10 : Int32)).toInt64)]) (st := []) rfl rfl (Nat.le_of_ble_eq_true rfl) dX12_load_21 (cI_use (M := (yX12_isWay, cX12_isWay, 2, some .boolean)) h ?_)
      intro r2 I2 L2 h
      refine jr_if_eq dX12_load_24 (tgt := 51) (by decide) (fun c => ?_) (fun c => ?_)
      · rw [if_pos c] at h
        refine jr_iconst dX12_load_51 kic_m1 ?_
        exact jr_ireturn dX12_load_52 ⟨Or.inr (Or.inl ⟨rfl, _, rfl⟩), _, _, rfl, h⟩
      · rw [if_neg c] at h
        refine jr_iload_n dX12_load_27 rfl rfl ?_
        refine jr_i2l dX12_load_28 ?_
        refine jr_lconst dX12_load_29 klc_1 ?_
        refine jr_ldc2 kl_X12_299 dX12_load_30 ?_
        refine jr_callS (mc2 := 0) (mc := 0) (ms2 := 0) (ms := 0) vm_X12_96 (av := [.long (x2.toInt64), .long (1 : Int64), .long (200 : Int64)]) (st := []) rfl rfl (Nat.le_of_ble_eq_true rfl) dX12_load_33 (cI_use (M := (yX12_within, cX12_within, 6, some .boolean)) h ?_)
        intro r3 I3 L3 h
        refine jr_if_eq dX12_load_36 (tgt := 51) (by decide) (fun c => ?_) (fun c => ?_)
        · rw [if_pos c] at h
          refine jr_iconst dX12_load_51 kic_m1 ?_
          exact jr_ireturn dX12_load_52 ⟨Or.inr (Or.inl ⟨rfl, _, rfl⟩), _, _, rfl, h⟩
        · rw [if_neg c] at h
          refine jr_iload_n dX12_load_39 rfl rfl ?_
          refine jr_i2l dX12_load_40 ?_
          refine jr_lconst dX12_load_41 klc_0 ?_
          refine jr_ldc2 kl_X12_116 dX12_load_42 ?_
          refine jr_callS (mc2 := 0) (mc := 0) (ms2 := 0) (ms := 0) vm_X12_96 (av := [.long (x3.toInt64), .long (0 : Int64), .long (9 : Int64)]) (st := []) rfl rfl (Nat.le_of_ble_eq_true rfl) dX12_load_45 (cI_use (M := (yX12_within, cX12_within, 6, some .boolean)) h ?_)
          intro r4 I4 L4 h
          refine jr_if_ne dX12_load_48 (tgt := 53) (by decide) (fun c => ?_) (fun c => ?_)
          · rw [if_neg c] at h
            refine jr_iload_n dX12_load_53 rfl rfl ?_
            refine jr_if_le dX12_load_54 (tgt := 72) (by decide) (fun c => ?_) (fun c => ?_)
            · rw [if_pos c] at h
              refine jr_iconst dX12_load_72 kic_1 ?_
              refine jr_istore dX12_load_73 (by decide) rfl ?_
              obtain ⟨e75, h⟩ := h
              exact J.sub (wX12_load_75_ok  e75 _ _ _ _ _ h) (jsub_some (jsub_some (jsub_some (jsub_none (jsub_some jsub_nil)))))
            · rw [if_neg c] at h
              refine jr_aload_n dX12_load_57 rfl rfl ?_
              refine jr_iload_n dX12_load_58 rfl rfl ?_
              refine jr_bipush dX12_load_59 kbp_10 ?_
              refine jr_idiv dX12_load_61 (by decide) ?_
              refine jr_iload_n dX12_load_62 rfl rfl ?_
              refine jr_bipush dX12_load_63 kbp_10 ?_
              refine jr_irem dX12_load_65 (by decide) ?_
              refine jr_iload_n dX12_load_66 rfl rfl ?_
              refine jr_iload_n dX12_load_67 rfl rfl ?_
              refine jr_callV (mc2 := 0) (mc := 0) (ms2 := 0) (ms := 0) vm_X12_301 (av := [.int (x1 / (10 : Int32)), .int (x1 - x1 / (10 : Int32) * (10 : Int32)), .int x2, .int x3]) (st := []) rfl rfl ks_71 (by decide) rfl (Nat.le_of_ble_eq_true rfl) dX12_load_68 (cI_use (M := (yX12_loadOf, cX12_loadOf, 8, some .int)) h ?_)
              intro r5 I5 L5 h
              exact jr_ireturn dX12_load_71 ⟨Or.inr (Or.inl ⟨rfl, _, rfl⟩), _, _, rfl, h⟩
          · rw [if_pos c] at h
            refine jr_iconst dX12_load_51 kic_m1 ?_
            exact jr_ireturn dX12_load_52 ⟨Or.inr (Or.inl ⟨rfl, _, rfl⟩), _, _, rfl, h⟩
def wX12_several_125 (G : jG) (l : Launch) (d : Nat) (k46 : Int32 → Int32 → Int32 → Int32 → Int32 → jS → jL → Prop) (Q : Option Value → jS → jL → Prop) (x1 : Int32) (x2 : Int32) (x4 : Int32) (x5 : Int32) (x6 : Int32) (t0 : Int32) (I : jS) (L : jL) : Prop := if x6 ≤ x4 then (k46 x1 x2 t0 x4 (x5 + (1 : Int32)) I L) else (k46 x1 x2 t0 x6 (x5 + (1 : Int32)) I L)
set_option maxRecDepth 100000 in
set_option maxHeartbeats 4000000 in
theorem wX12_several_125_ok {G : jG} {l : Launch} {d : Nat} {Q : Option Value → jS → jL → Prop} {k46 : Int32 → Int32 → Int32 → Int32 → Int32 → jS → jL → Prop} (hk46 : ∀ (x1 : Int32) (x2 : Int32) (x3 : Int32) (x4 : Int32) (x5 : Int32) (I : jS) (L : jL), k46 x1 x2 x3 x4 x5 I L → J G l yX12_several cX12_several 9 (d + 1) 0 0 46 [some (.ref 71), some (.int x1), some (.int x2), some (.int x3), some (.int x4), some (.int x5), none, none, none] [] (jKS, I, L, jR0) (jQm (some .int) Q)) : ∀ (x1 : Int32) (x2 : Int32) (x4 : Int32) (x5 : Int32) (x6 : Int32) (t0 : Int32) (I : jS) (L : jL), wX12_several_125 G l d k46 Q x1 x2 x4 x5 x6 t0 I L → J G l yX12_several cX12_several 9 (d + 1) 0 0 125 [some (.ref 71), some (.int x1), some (.int x2), none, some (.int x4), some (.int x5), some (.int x6), none, none] [.int t0] (jKS, I, L, jR0) (jQm (some .int) Q) := by
  intro x1 x2 x4 x5 x6 t0 I L h
  rw [wX12_several_125] at h
  refine jr_istore_n dX12_several_125 rfl (by decide) rfl ?_
  refine jr_iload dX12_several_126 rfl ?_
  refine jr_iload dX12_several_128 rfl ?_
  refine jr_icmp_le dX12_several_130 (tgt := 138) (by decide) (fun c => ?_) (fun c => ?_)
  · rw [if_pos c] at h
    refine jr_iload dX12_several_138 rfl ?_
    refine jr_istore dX12_several_140 (by decide) rfl ?_
    refine jr_iinc dX12_several_142 rfl (by rw [kic_1]) (by decide) rfl ?_
    refine jr_goto dX12_several_145 (tgt := 46) (by decide) ?_
    exact J.sub (hk46 _ _ _ _ _ _ _ h) (jsub_some (jsub_some (jsub_some (jsub_some (jsub_some (jsub_some (jsub_none (jsub_none (jsub_none jsub_nil)))))))))
  · rw [if_neg c] at h
    refine jr_iload dX12_several_133 rfl ?_
    refine jr_goto dX12_several_135 (tgt := 140) (by decide) ?_
    refine jr_istore dX12_several_140 (by decide) rfl ?_
    refine jr_iinc dX12_several_142 rfl (by rw [kic_1]) (by decide) rfl ?_
    refine jr_goto dX12_several_145 (tgt := 46) (by decide) ?_
    exact J.sub (hk46 _ _ _ _ _ _ _ h) (jsub_some (jsub_some (jsub_some (jsub_some (jsub_some (jsub_some (jsub_none (jsub_none (jsub_none jsub_nil)))))))))
def wX12_several_65 (G : jG) (l : Launch) (d : Nat) (k46 : Int32 → Int32 → Int32 → Int32 → Int32 → jS → jL → Prop) (Q : Option Value → jS → jL → Prop) : Nat → Int32 → Int32 → Int32 → Int32 → Int32 → Int32 → Int32 → Int32 → jS → jL → Prop
  | 0, _, _, _, _, _, _, _, _, _, _ => False
  | n65 + 1, x1, x2, x3, x4, x5, x6, x7, x8, I, L => if (I 71 6) ≤ x8 then (if x6 ≤ x4 then (wX12_several_125 G l d k46 Q x1 x2 x4 x5 x6 x3 I L) else (wX12_several_125 G l d k46 Q x1 x2 x4 x5 x6 x5 I L)) else (¬ (x7 / (3 : Int32)) = 0 ∧ (cI G l mX12_crosses d [.ref 71, .int x8, .int ((x5 / (x7 / (3 : Int32))) - (x5 / (x7 / (3 : Int32))) / (3 : Int32) * (3 : Int32))] I L (fun r2 I2 L2 => (if r2 = 0 then ((wX12_several_65 G l d k46 Q n65) x1 x2 x3 x4 x5 (x6 + (0 : Int32)) (x7 / (3 : Int32)) (x8 + (1 : Int32)) I2 L2) else ((wX12_several_65 G l d k46 Q n65) x1 x2 x3 x4 x5 (x6 + (1 : Int32)) (x7 / (3 : Int32)) (x8 + (1 : Int32)) I2 L2)))))
set_option maxRecDepth 100000 in
set_option maxHeartbeats 4000000 in
theorem wX12_several_65_ok {G : jG} {l : Launch} {d : Nat} {Q : Option Value → jS → jL → Prop} {k46 : Int32 → Int32 → Int32 → Int32 → Int32 → jS → jL → Prop} (hk46 : ∀ (x1 : Int32) (x2 : Int32) (x3 : Int32) (x4 : Int32) (x5 : Int32) (I : jS) (L : jL), k46 x1 x2 x3 x4 x5 I L → J G l yX12_several cX12_several 9 (d + 1) 0 0 46 [some (.ref 71), some (.int x1), some (.int x2), some (.int x3), some (.int x4), some (.int x5), none, none, none] [] (jKS, I, L, jR0) (jQm (some .int) Q)) : ∀ (n : Nat) (x1 : Int32) (x2 : Int32) (x3 : Int32) (x4 : Int32) (x5 : Int32) (x6 : Int32) (x7 : Int32) (x8 : Int32) (I : jS) (L : jL), wX12_several_65 G l d k46 Q n x1 x2 x3 x4 x5 x6 x7 x8 I L → J G l yX12_several cX12_several 9 (d + 1) 0 0 65 [some (.ref 71), some (.int x1), some (.int x2), some (.int x3), some (.int x4), some (.int x5), some (.int x6), some (.int x7), some (.int x8)] [] (jKS, I, L, jR0) (jQm (some .int) Q) := by
  intro n
  induction n with
  | zero => intro x1 x2 x3 x4 x5 x6 x7 x8 I L h; exact h.elim
  | succ n ih =>
    intro x1 x2 x3 x4 x5 x6 x7 x8 I L h
    rw [wX12_several_65] at h
    refine jr_iload dX12_several_65 rfl ?_
    refine jr_aload_n dX12_several_67 rfl rfl ?_
    refine jv_geti rfl ff_X12_93 ks_71 dX12_several_68 ?_
    refine jr_icmp_ge dX12_several_71 (tgt := 112) (by decide) (fun c => ?_) (fun c => ?_)
    · rw [if_pos c] at h
      refine jr_iload dX12_several_112 rfl ?_
      refine jr_iload dX12_several_114 rfl ?_
      refine jr_icmp_le dX12_several_116 (tgt := 124) (by decide) (fun c => ?_) (fun c => ?_)
      · rw [if_pos c] at h
        refine jr_iload_n dX12_several_124 rfl rfl ?_
        exact J.sub (wX12_several_125_ok  hk46 _ _ _ _ _ _ _ _ h) (jsub_some (jsub_some (jsub_some (jsub_none (jsub_some (jsub_some (jsub_some (jsub_none (jsub_none jsub_nil)))))))))
      · rw [if_neg c] at h
        refine jr_iload dX12_several_119 rfl ?_
        refine jr_goto dX12_several_121 (tgt := 125) (by decide) ?_
        exact J.sub (wX12_several_125_ok  hk46 _ _ _ _ _ _ _ _ h) (jsub_some (jsub_some (jsub_some (jsub_none (jsub_some (jsub_some (jsub_some (jsub_none (jsub_none jsub_nil)))))))))
    · rw [if_neg c] at h
      refine jr_iload dX12_several_74 rfl ?_
      refine jr_iconst dX12_several_76 kic_3 ?_
      refine jr_idiv dX12_several_77 (by decide) ?_
      refine jr_istore dX12_several_78 (by decide) rfl ?_
      refine jr_iload dX12_several_80 rfl ?_
      refine jr_aload_n dX12_several_82 rfl rfl ?_
      refine jr_iload dX12_several_83 rfl ?_
      refine jr_iload dX12_several_85 rfl ?_
      refine jr_iload dX12_several_87 rfl ?_
      obtain ⟨g1, h⟩ := h
      refine jr_idiv dX12_several_89 g1 ?_
      refine jr_iconst dX12_several_90 kic_3 ?_
      refine jr_irem dX12_several_91 (by decide) ?_
      refine jr_callV (mc2 := 0) (mc := 0) (ms2 := 0) (ms := 0) vm_X12_249 (av := [.int x8, .int ((x5 / (x7 / (3 : Int32))) - (x5 / (x7 / (3 : Int32))) / (3 : Int32) * (3 : Int32))]) (st := [.int x6]) rfl rfl ks_71 (by decide) rfl (Nat.le_of_ble_eq_true rfl) dX12_several_92 (cI_use (M := (yX12_crosses, cX12_crosses, 3, some .boolean)) h ?_)
      intro r2 I2 L2 h
      refine jr_if_eq dX12_several_95 (tgt := 102) (by decide) (fun c => ?_) (fun c => ?_)
      · rw [if_pos c] at h
        refine jr_iconst dX12_several_102 kic_0 ?_
        refine jr_iadd dX12_several_103 ?_
        refine jr_istore dX12_several_104 (by decide) rfl ?_
        refine jr_iinc dX12_several_106 rfl (by rw [kic_1]) (by decide) rfl ?_
        refine jr_goto dX12_several_109 (tgt := 65) (by decide) ?_
        exact J.sub (ih _ _ _ _ _ _ _ _ _ _ h) (jsub_some (jsub_some (jsub_some (jsub_some (jsub_some (jsub_some (jsub_some (jsub_some (jsub_some jsub_nil)))))))))
      · rw [if_neg c] at h
        refine jr_iconst dX12_several_98 kic_1 ?_
        refine jr_goto dX12_several_99 (tgt := 103) (by decide) ?_
        refine jr_iadd dX12_several_103 ?_
        refine jr_istore dX12_several_104 (by decide) rfl ?_
        refine jr_iinc dX12_several_106 rfl (by rw [kic_1]) (by decide) rfl ?_
        refine jr_goto dX12_several_109 (tgt := 65) (by decide) ?_
        exact J.sub (ih _ _ _ _ _ _ _ _ _ _ h) (jsub_some (jsub_some (jsub_some (jsub_some (jsub_some (jsub_some (jsub_some (jsub_some (jsub_some jsub_nil)))))))))
def wX12_several_163 (G : jG) (l : Launch) (d : Nat) (Q : Option Value → jS → jL → Prop) : Nat → Int32 → Int32 → Int32 → jS → jL → Prop
  | 0, _, _, _, _, _ => False
  | n163 + 1, x1, x3, x5, I, L => if x5 ≤ x1 then (Q (some (.int (x3 - x3 / (3 : Int32) * (3 : Int32)))) I L) else ((wX12_several_163 G l d Q n163) x1 (x3 / (3 : Int32)) (x5 + (-1 : Int32)) I L)
set_option maxRecDepth 100000 in
set_option maxHeartbeats 4000000 in
theorem wX12_several_163_ok {G : jG} {l : Launch} {d : Nat} {Q : Option Value → jS → jL → Prop} : ∀ (n : Nat) (x1 : Int32) (x3 : Int32) (x5 : Int32) (I : jS) (L : jL), wX12_several_163 G l d Q n x1 x3 x5 I L → J G l yX12_several cX12_several 9 (d + 1) 0 0 163 [none, some (.int x1), none, some (.int x3), none, some (.int x5), none, none, none] [] (jKS, I, L, jR0) (jQm (some .int) Q) := by
  intro n
  induction n with
  | zero => intro x1 x3 x5 I L h; exact h.elim
  | succ n ih =>
    intro x1 x3 x5 I L h
    rw [wX12_several_163] at h
    refine jr_iload dX12_several_163 rfl ?_
    refine jr_iload_n dX12_several_165 rfl rfl ?_
    refine jr_icmp_le dX12_several_166 (tgt := 179) (by decide) (fun c => ?_) (fun c => ?_)
    · rw [if_pos c] at h
      refine jr_iload_n dX12_several_179 rfl rfl ?_
      refine jr_iconst dX12_several_180 kic_3 ?_
      refine jr_irem dX12_several_181 (by decide) ?_
      exact jr_ireturn dX12_several_182 ⟨Or.inr (Or.inl ⟨rfl, _, rfl⟩), _, _, rfl, h⟩
    · rw [if_neg c] at h
      refine jr_iload_n dX12_several_169 rfl rfl ?_
      refine jr_iconst dX12_several_170 kic_3 ?_
      refine jr_idiv dX12_several_171 (by decide) ?_
      refine jr_istore_n dX12_several_172 rfl (by decide) rfl ?_
      refine jr_iinc dX12_several_173 rfl (by rw [kic_m1]) (by decide) rfl ?_
      refine jr_goto dX12_several_176 (tgt := 163) (by decide) ?_
      exact J.sub (ih _ _ _ _ _ h) (jsub_none (jsub_some (jsub_none (jsub_some (jsub_none (jsub_some (jsub_none (jsub_none (jsub_none jsub_nil)))))))))
def wX12_several_46 (G : jG) (l : Launch) (d : Nat) (Q : Option Value → jS → jL → Prop) : Nat → Int32 → Int32 → Int32 → Int32 → Int32 → jS → jL → Prop
  | 0, _, _, _, _, _, _, _ => False
  | n46 + 1, x1, x2, x3, x4, x5, I, L => if x2 ≤ x5 then (if 0 ≤ x1 then (∃ e163 : Nat, wX12_several_163 G l d Q e163 x1 x3 ((I 71 6) - (1 : Int32)) I L) else (Q (some (.int x4)) I L)) else (cV G l mX12_begins1 d [.ref 71] I L (fun I1 L1 => (∃ e65 : Nat, wX12_several_65 G l d (fun z0 z1 z2 z3 z4 I L => wX12_several_46 G l d Q n46 z0 z1 z2 z3 z4 I L) Q e65 x1 x2 x3 x4 x5 (0 : Int32) x2 (0 : Int32) I1 L1)))
set_option maxRecDepth 100000 in
set_option maxHeartbeats 4000000 in
theorem wX12_several_46_ok {G : jG} {l : Launch} {d : Nat} {Q : Option Value → jS → jL → Prop} : ∀ (n : Nat) (x1 : Int32) (x2 : Int32) (x3 : Int32) (x4 : Int32) (x5 : Int32) (I : jS) (L : jL), wX12_several_46 G l d Q n x1 x2 x3 x4 x5 I L → J G l yX12_several cX12_several 9 (d + 1) 0 0 46 [some (.ref 71), some (.int x1), some (.int x2), some (.int x3), some (.int x4), some (.int x5), none, none, none] [] (jKS, I, L, jR0) (jQm (some .int) Q) := by
  intro n
  induction n with
  | zero => intro x1 x2 x3 x4 x5 I L h; exact h.elim
  | succ n ih =>
    intro x1 x2 x3 x4 x5 I L h
    rw [wX12_several_46] at h
    refine jr_iload dX12_several_46 rfl ?_
    refine jr_iload_n dX12_several_48 rfl rfl ?_
    refine jr_icmp_ge dX12_several_49 (tgt := 148) (by decide) (fun c => ?_) (fun c => ?_)
    · rw [if_pos c] at h
      refine jr_iload_n dX12_several_148 rfl rfl ?_
      refine jr_if_ge dX12_several_149 (tgt := 155) (by decide) (fun c => ?_) (fun c => ?_)
      · rw [if_pos c] at h
        refine jr_aload_n dX12_several_155 rfl rfl ?_
        refine jv_geti rfl ff_X12_93 ks_71 dX12_several_156 ?_
        refine jr_iconst dX12_several_159 kic_1 ?_
        refine jr_isub dX12_several_160 ?_
        refine jr_istore dX12_several_161 (by decide) rfl ?_
        obtain ⟨e163, h⟩ := h
        exact J.sub (wX12_several_163_ok  e163 _ _ _ _ _ h) (jsub_none (jsub_some (jsub_none (jsub_some (jsub_none (jsub_some (jsub_none (jsub_none (jsub_none jsub_nil)))))))))
      · rw [if_neg c] at h
        refine jr_iload dX12_several_152 rfl ?_
        exact jr_ireturn dX12_several_154 ⟨Or.inr (Or.inl ⟨rfl, _, rfl⟩), _, _, rfl, h⟩
    · rw [if_neg c] at h
      refine jr_aload_n dX12_several_52 rfl rfl ?_
      refine jr_callV (mc2 := 0) (mc := 0) (ms2 := 0) (ms := 0) vm_X12_146 (av := []) (st := []) rfl rfl ks_71 (by decide) rfl (Nat.le_of_ble_eq_true rfl) dX12_several_53 (cV_use (M := (yX12_begins1, cX12_begins1, 2, none)) h ?_)
      intro I1 L1 h
      refine jr_iconst dX12_several_56 kic_0 ?_
      refine jr_istore dX12_several_57 (by decide) rfl ?_
      refine jr_iload_n dX12_several_59 rfl rfl ?_
      refine jr_istore dX12_several_60 (by decide) rfl ?_
      refine jr_iconst dX12_several_62 kic_0 ?_
      refine jr_istore dX12_several_63 (by decide) rfl ?_
      obtain ⟨e65, h⟩ := h
      exact J.sub (wX12_several_65_ok  ih e65 _ _ _ _ _ _ _ _ _ _ h) (jsub_some (jsub_some (jsub_some (jsub_some (jsub_some (jsub_some (jsub_some (jsub_some (jsub_some jsub_nil)))))))))
def wX12_several_20 (G : jG) (l : Launch) (d : Nat) (Q : Option Value → jS → jL → Prop) : Nat → Int32 → Int32 → Int32 → jS → jL → Prop
  | 0, _, _, _, _, _ => False
  | n20 + 1, x1, x2, x3, I, L => if (I 71 6) ≤ x3 then (∃ e46 : Nat, wX12_several_46 G l d Q e46 x1 x2 (0 : Int32) (-1 : Int32) (0 : Int32) I L) else ((wX12_several_20 G l d Q n20) x1 (x2 * (3 : Int32)) (x3 + (1 : Int32)) I L)
set_option maxRecDepth 100000 in
set_option maxHeartbeats 4000000 in
theorem wX12_several_20_ok {G : jG} {l : Launch} {d : Nat} {Q : Option Value → jS → jL → Prop} : ∀ (n : Nat) (x1 : Int32) (x2 : Int32) (x3 : Int32) (I : jS) (L : jL), wX12_several_20 G l d Q n x1 x2 x3 I L → J G l yX12_several cX12_several 9 (d + 1) 0 0 20 [some (.ref 71), some (.int x1), some (.int x2), some (.int x3), none, none, none, none, none] [] (jKS, I, L, jR0) (jQm (some .int) Q) := by
  intro n
  induction n with
  | zero => intro x1 x2 x3 I L h; exact h.elim
  | succ n ih =>
    intro x1 x2 x3 I L h
    rw [wX12_several_20] at h
    refine jr_iload_n dX12_several_20 rfl rfl ?_
    refine jr_aload_n dX12_several_21 rfl rfl ?_
    refine jv_geti rfl ff_X12_93 ks_71 dX12_several_22 ?_
    refine jr_icmp_ge dX12_several_25 (tgt := 38) (by decide) (fun c => ?_) (fun c => ?_)
    · rw [if_pos c] at h
      refine jr_iconst dX12_several_38 kic_0 ?_
      refine jr_istore_n dX12_several_39 rfl (by decide) rfl ?_
      refine jr_iconst dX12_several_40 kic_m1 ?_
      refine jr_istore dX12_several_41 (by decide) rfl ?_
      refine jr_iconst dX12_several_43 kic_0 ?_
      refine jr_istore dX12_several_44 (by decide) rfl ?_
      obtain ⟨e46, h⟩ := h
      exact J.sub (wX12_several_46_ok  e46 _ _ _ _ _ _ _ h) (jsub_some (jsub_some (jsub_some (jsub_some (jsub_some (jsub_some (jsub_none (jsub_none (jsub_none jsub_nil)))))))))
    · rw [if_neg c] at h
      refine jr_iload_n dX12_several_28 rfl rfl ?_
      refine jr_iconst dX12_several_29 kic_3 ?_
      refine jr_imul dX12_several_30 ?_
      refine jr_istore_n dX12_several_31 rfl (by decide) rfl ?_
      refine jr_iinc dX12_several_32 rfl (by rw [kic_1]) (by decide) rfl ?_
      refine jr_goto dX12_several_35 (tgt := 20) (by decide) ?_
      exact J.sub (ih _ _ _ _ _ h) (jsub_some (jsub_some (jsub_some (jsub_some (jsub_none (jsub_none (jsub_none (jsub_none (jsub_none jsub_nil)))))))))
def wX12_several (G : jG) (l : Launch) (d : Nat) (x1 : Int32) (I : jS) (L : jL) (Q : Option Value → jS → jL → Prop) : Prop := if x1 = (-1 : Int32) then (∃ e20 : Nat, wX12_several_20 G l d Q e20 x1 (1 : Int32) (0 : Int32) I L) else (cI G l mX12_isGoer d [.ref 71, .long (x1.toInt64)] I L (fun r1 I1 L1 => (if r1 = 0 then (Q (some (.int (-1 : Int32))) I1 L1) else (∃ e20 : Nat, wX12_several_20 G l d Q e20 x1 (1 : Int32) (0 : Int32) I1 L1))))
set_option maxRecDepth 100000 in
set_option maxHeartbeats 4000000 in
theorem wX12_several_ok {G : jG} {l : Launch} {d : Nat} {Q : Option Value → jS → jL → Prop} {x1 : Int32} {I : jS} {L : jL} (h : wX12_several G l d x1 I L Q) : cM G l mX12_several (d + 1) [.ref 71, .int x1] I L Q := by
  rw [wX12_several] at h
  show jCall G l yX12_several cX12_several 9 (some .int) (d + 1) 0 0 _ (jKS, I, L, jR0) _
  refine jCall_of (n0 := 7) (ls := [some (.ref 71), some (.int x1), none, none, none, none, none, none, none]) (by decide +kernel) rfl (Nat.le_of_ble_eq_true rfl) (jQm_of ?_)
  refine jr_iload_n dX12_several_0 rfl rfl ?_
  refine jr_iconst dX12_several_1 kic_m1 ?_
  refine jr_icmp_eq dX12_several_2 (tgt := 16) (by decide) (fun c => ?_) (fun c => ?_)
  · rw [if_pos c] at h
    refine jr_iconst dX12_several_16 kic_1 ?_
    refine jr_istore_n dX12_several_17 rfl (by decide) rfl ?_
    refine jr_iconst dX12_several_18 kic_0 ?_
    refine jr_istore_n dX12_several_19 rfl (by decide) rfl ?_
    obtain ⟨e20, h⟩ := h
    exact J.sub (wX12_several_20_ok  e20 _ _ _ _ _ h) (jsub_some (jsub_some (jsub_some (jsub_some (jsub_none (jsub_none (jsub_none (jsub_none (jsub_none jsub_nil)))))))))
  · rw [if_neg c] at h
    refine jr_aload_n dX12_several_5 rfl rfl ?_
    refine jr_iload_n dX12_several_6 rfl rfl ?_
    refine jr_i2l dX12_several_7 ?_
    refine jr_callV (mc2 := 0) (mc := 0) (ms2 := 0) (ms := 0) vm_X12_125 (av := [.long (x1.toInt64)]) (st := []) rfl rfl ks_71 (by decide) rfl (Nat.le_of_ble_eq_true rfl) dX12_several_8 (cI_use (M := (yX12_isGoer, cX12_isGoer, 3, some .boolean)) h ?_)
    intro r1 I1 L1 h
    refine jr_if_ne dX12_several_11 (tgt := 16) (by decide) (fun c => ?_) (fun c => ?_)
    · rw [if_neg c] at h
      refine jr_iconst dX12_several_16 kic_1 ?_
      refine jr_istore_n dX12_several_17 rfl (by decide) rfl ?_
      refine jr_iconst dX12_several_18 kic_0 ?_
      refine jr_istore_n dX12_several_19 rfl (by decide) rfl ?_
      obtain ⟨e20, h⟩ := h
      exact J.sub (wX12_several_20_ok  e20 _ _ _ _ _ h) (jsub_some (jsub_some (jsub_some (jsub_some (jsub_none (jsub_none (jsub_none (jsub_none (jsub_none jsub_nil)))))))))
    · rw [if_pos c] at h
      refine jr_iconst dX12_several_14 kic_m1 ?_
      exact jr_ireturn dX12_several_15 ⟨Or.inr (Or.inl ⟨rfl, _, rfl⟩), _, _, rfl, h⟩
def wX12_waysOf_38 (G : jG) (l : Launch) (d : Nat) (k6 : Int32 → Int32 → Int32 → Int64 → Int32 → jS → jL → Prop) (Q : Option Value → jS → jL → Prop) (x1 : Int32) (x2 : Int32) (x3 : Int32) (y4 : Int64) (x6 : Int32) (t0 : Int32) (I : jS) (L : jL) : Prop := cI G l mX12_isIn d [.int x2, .int x6] I L (fun r1 I1 L1 => (if r1 = 0 then (k6 x1 x2 x3 (y4 * ((12 : Int32) - t0).toInt64) (x6 + (1 : Int32)) I1 L1) else (k6 x1 x2 x3 (y4 * t0.toInt64) (x6 + (1 : Int32)) I1 L1)))
set_option maxRecDepth 100000 in
set_option maxHeartbeats 4000000 in
theorem wX12_waysOf_38_ok {G : jG} {l : Launch} {d : Nat} {Q : Option Value → jS → jL → Prop} {k6 : Int32 → Int32 → Int32 → Int64 → Int32 → jS → jL → Prop} (hk6 : ∀ (x1 : Int32) (x2 : Int32) (x3 : Int32) (y4 : Int64) (x6 : Int32) (I : jS) (L : jL), k6 x1 x2 x3 y4 x6 I L → J G l yX12_waysOf cX12_waysOf 8 (d + 1) 0 0 6 [some (.ref 71), some (.int x1), some (.int x2), some (.int x3), some (.long y4), none, some (.int x6), none] [] (jKS, I, L, jR0) (jQm (some .long) Q)) : ∀ (x1 : Int32) (x2 : Int32) (x3 : Int32) (y4 : Int64) (x6 : Int32) (t0 : Int32) (I : jS) (L : jL), wX12_waysOf_38 G l d k6 Q x1 x2 x3 y4 x6 t0 I L → J G l yX12_waysOf cX12_waysOf 8 (d + 1) 0 0 38 [some (.ref 71), some (.int x1), some (.int x2), some (.int x3), some (.long y4), none, some (.int x6), none] [.int t0] (jKS, I, L, jR0) (jQm (some .long) Q) := by
  intro x1 x2 x3 y4 x6 t0 I L h
  rw [wX12_waysOf_38] at h
  refine jr_istore dX12_waysOf_38 (by decide) rfl ?_
  refine jr_lload dX12_waysOf_40 rfl ?_
  refine jr_iload_n dX12_waysOf_42 rfl rfl ?_
  refine jr_iload dX12_waysOf_43 rfl ?_
  refine jr_callS (mc2 := 0) (mc := 0) (ms2 := 0) (ms := 0) vm_X12_219 (av := [.int x2, .int x6]) (st := [.long y4]) rfl rfl (Nat.le_of_ble_eq_true rfl) dX12_waysOf_45 (cI_use (M := (yX12_isIn, cX12_isIn, 2, some .boolean)) h ?_)
  intro r1 I1 L1 h
  refine jr_if_eq dX12_waysOf_48 (tgt := 57) (by decide) (fun c => ?_) (fun c => ?_)
  · rw [if_pos c] at h
    refine jr_bipush dX12_waysOf_57 kbp_12 ?_
    refine jr_iload dX12_waysOf_59 rfl ?_
    refine jr_isub dX12_waysOf_61 ?_
    refine jr_i2l dX12_waysOf_62 ?_
    refine jr_lmul dX12_waysOf_63 ?_
    refine jr_lstore dX12_waysOf_64 (by decide) rfl ?_
    refine jr_iinc dX12_waysOf_66 rfl (by rw [kic_1]) (by decide) rfl ?_
    refine jr_goto dX12_waysOf_69 (tgt := 6) (by decide) ?_
    exact J.sub (hk6 _ _ _ _ _ _ _ h) (jsub_some (jsub_some (jsub_some (jsub_some (jsub_some (jsub_none (jsub_some (jsub_none jsub_nil))))))))
  · rw [if_neg c] at h
    refine jr_iload dX12_waysOf_51 rfl ?_
    refine jr_i2l dX12_waysOf_53 ?_
    refine jr_goto dX12_waysOf_54 (tgt := 63) (by decide) ?_
    refine jr_lmul dX12_waysOf_63 ?_
    refine jr_lstore dX12_waysOf_64 (by decide) rfl ?_
    refine jr_iinc dX12_waysOf_66 rfl (by rw [kic_1]) (by decide) rfl ?_
    refine jr_goto dX12_waysOf_69 (tgt := 6) (by decide) ?_
    exact J.sub (hk6 _ _ _ _ _ _ _ h) (jsub_some (jsub_some (jsub_some (jsub_some (jsub_some (jsub_none (jsub_some (jsub_none jsub_nil))))))))
def wX12_waysOf_6 (G : jG) (l : Launch) (d : Nat) (Q : Option Value → jS → jL → Prop) : Nat → Int32 → Int32 → Int32 → Int64 → Int32 → jS → jL → Prop
  | 0, _, _, _, _, _, _, _ => False
  | n6 + 1, x1, x2, x3, y4, x6, I, L => if (8 : Int32) ≤ x6 then (Q (some (.long y4)) I L) else (if x6 = x3 then (wX12_waysOf_38 G l d (fun z0 z1 z2 z3 z4 I L => wX12_waysOf_6 G l d Q n6 z0 z1 z2 z3 z4 I L) Q x1 x2 x3 y4 x6 (0 : Int32) I L) else (vp_in (((48 : Int32) + ((8 : Int32) * x1)) + x6) 125 ∧ (wX12_waysOf_38 G l d (fun z0 z1 z2 z3 z4 I L => wX12_waysOf_6 G l d Q n6 z0 z1 z2 z3 z4 I L) Q x1 x2 x3 y4 x6 (I 72 ((((48 : Int32) + ((8 : Int32) * x1)) + x6).toNatClampNeg)) I L)))
set_option maxRecDepth 100000 in
set_option maxHeartbeats 4000000 in
theorem wX12_waysOf_6_ok {G : jG} {l : Launch} {d : Nat} {Q : Option Value → jS → jL → Prop} : ∀ (n : Nat) (x1 : Int32) (x2 : Int32) (x3 : Int32) (y4 : Int64) (x6 : Int32) (I : jS) (L : jL), wX12_waysOf_6 G l d Q n x1 x2 x3 y4 x6 I L → J G l yX12_waysOf cX12_waysOf 8 (d + 1) 0 0 6 [some (.ref 71), some (.int x1), some (.int x2), some (.int x3), some (.long y4), none, some (.int x6), none] [] (jKS, I, L, jR0) (jQm (some .long) Q) := by
  intro n
  induction n with
  | zero => intro x1 x2 x3 y4 x6 I L h; exact h.elim
  | succ n ih =>
    intro x1 x2 x3 y4 x6 I L h
    rw [wX12_waysOf_6] at h
    refine jr_iload dX12_waysOf_6 rfl ?_
    refine jr_bipush dX12_waysOf_8 kbp_8 ?_
    refine jr_icmp_ge dX12_waysOf_10 (tgt := 72) (by decide) (fun c => ?_) (fun c => ?_)
    · rw [if_pos c] at h
      refine jr_lload dX12_waysOf_72 rfl ?_
      exact jr_lreturn dX12_waysOf_74 ⟨Or.inr (Or.inr (Or.inl ⟨rfl, _, rfl⟩)), _, _, rfl, h⟩
    · rw [if_neg c] at h
      refine jr_iload dX12_waysOf_13 rfl ?_
      refine jr_iload_n dX12_waysOf_15 rfl rfl ?_
      refine jr_icmp_ne dX12_waysOf_16 (tgt := 23) (by decide) (fun c => ?_) (fun c => ?_)
      · rw [if_neg c] at h
        refine jr_aload_n dX12_waysOf_23 rfl rfl ?_
        refine jr_geta ff_X12_11 ks_71 rr_71_0 dX12_waysOf_24 ?_
        refine jr_bipush dX12_waysOf_27 kbp_48 ?_
        refine jr_bipush dX12_waysOf_29 kbp_8 ?_
        refine jr_iload_n dX12_waysOf_31 rfl rfl ?_
        refine jr_imul dX12_waysOf_32 ?_
        refine jr_iadd dX12_waysOf_33 ?_
        refine jr_iload dX12_waysOf_34 rfl ?_
        refine jr_iadd dX12_waysOf_36 ?_
        obtain ⟨g1, h⟩ := h
        refine jv_iaload rfl rfl ks_72 dX12_waysOf_37 g1 ?_
        exact J.sub (wX12_waysOf_38_ok  ih _ _ _ _ _ _ _ _ h) (jsub_some (jsub_some (jsub_some (jsub_some (jsub_some (jsub_none (jsub_some (jsub_none jsub_nil))))))))
      · rw [if_pos c] at h
        refine jr_iconst dX12_waysOf_19 kic_0 ?_
        refine jr_goto dX12_waysOf_20 (tgt := 38) (by decide) ?_
        exact J.sub (wX12_waysOf_38_ok  ih _ _ _ _ _ _ _ _ h) (jsub_some (jsub_some (jsub_some (jsub_some (jsub_some (jsub_none (jsub_some (jsub_none jsub_nil))))))))
def wX12_waysOf (G : jG) (l : Launch) (d : Nat) (x1 : Int32) (x2 : Int32) (x3 : Int32) (I : jS) (L : jL) (Q : Option Value → jS → jL → Prop) : Prop := ∃ e6 : Nat, wX12_waysOf_6 G l d Q e6 x1 x2 x3 (1 : Int64) (0 : Int32) I L
set_option maxRecDepth 100000 in
set_option maxHeartbeats 4000000 in
theorem wX12_waysOf_ok {G : jG} {l : Launch} {d : Nat} {Q : Option Value → jS → jL → Prop} {x1 : Int32} {x2 : Int32} {x3 : Int32} {I : jS} {L : jL} (h : wX12_waysOf G l d x1 x2 x3 I L Q) : cM G l mX12_waysOf (d + 1) [.ref 71, .int x1, .int x2, .int x3] I L Q := by
  rw [wX12_waysOf] at h
  show jCall G l yX12_waysOf cX12_waysOf 8 (some .long) (d + 1) 0 0 _ (jKS, I, L, jR0) _
  refine jCall_of (n0 := 4) (ls := [some (.ref 71), some (.int x1), some (.int x2), some (.int x3), none, none, none, none]) (by decide +kernel) rfl (Nat.le_of_ble_eq_true rfl) (jQm_of ?_)
  refine jr_lconst dX12_waysOf_0 klc_1 ?_
  refine jr_lstore dX12_waysOf_1 (by decide) rfl ?_
  refine jr_iconst dX12_waysOf_3 kic_0 ?_
  refine jr_istore dX12_waysOf_4 (by decide) rfl ?_
  obtain ⟨e6, h⟩ := h
  exact J.sub (wX12_waysOf_6_ok  e6 _ _ _ _ _ _ _ h) (jsub_some (jsub_some (jsub_some (jsub_some (jsub_some (jsub_none (jsub_some (jsub_none jsub_nil))))))))
def wX12_asksGoes_5 (G : jG) (l : Launch) (d : Nat) (Q : Option Value → jS → jL → Prop) : Nat → Int32 → jS → jL → Prop
  | 0, _, _, _ => False
  | n5 + 1, x1, I, L => if (4 : Int32) ≤ (I 71 34) then (Q none I L) else (cI G l mX12_orderedOf d [.ref 71, .int x1] I L (fun r1 I1 L1 => (if r1 ≤ (I 71 34) then (Q none I1 L1) else (cI G l mX12_goerAt d [.ref 71, .int x1, .int (I1 71 34)] I1 L1 (fun r2 I2 L2 => (vp_in (I1 71 34) 4 ∧ ((wX12_asksGoes_5 G l d Q n5) x1 (u2 (u2 I2 84 ((I1 71 34).toNatClampNeg) r2) 71 34 ((I2 71 34) + (1 : Int32))) L2)))))))
set_option maxRecDepth 100000 in
set_option maxHeartbeats 4000000 in
theorem wX12_asksGoes_5_ok {G : jG} {l : Launch} {d : Nat} {Q : Option Value → jS → jL → Prop} : ∀ (n : Nat) (x1 : Int32) (I : jS) (L : jL), wX12_asksGoes_5 G l d Q n x1 I L → J G l yX12_asksGoes cX12_asksGoes 2 (d + 1) 0 0 5 [some (.ref 71), some (.int x1)] [] (jKS, I, L, jR0) (jQm (none) Q) := by
  intro n
  induction n with
  | zero => intro x1 I L h; exact h.elim
  | succ n ih =>
    intro x1 I L h
    rw [wX12_asksGoes_5] at h
    refine jr_aload_n dX12_asksGoes_5 rfl rfl ?_
    refine jv_geti rfl ff_X12_305 ks_71 dX12_asksGoes_6 ?_
    refine jr_iconst dX12_asksGoes_9 kic_4 ?_
    refine jr_icmp_ge dX12_asksGoes_10 (tgt := 56) (by decide) (fun c => ?_) (fun c => ?_)
    · rw [if_pos c] at h
      exact jr_return dX12_asksGoes_56 ⟨Or.inl ⟨rfl, rfl⟩, _, _, rfl, h⟩
    · rw [if_neg c] at h
      refine jr_aload_n dX12_asksGoes_13 rfl rfl ?_
      refine jv_geti rfl ff_X12_305 ks_71 dX12_asksGoes_14 ?_
      refine jr_aload_n dX12_asksGoes_17 rfl rfl ?_
      refine jr_iload_n dX12_asksGoes_18 rfl rfl ?_
      refine jr_callV (mc2 := 0) (mc := 0) (ms2 := 0) (ms := 0) vm_X12_258 (av := [.int x1]) (st := [.int (I 71 34)]) rfl rfl ks_71 (by decide) rfl (Nat.le_of_ble_eq_true rfl) dX12_asksGoes_19 (cI_use (M := (yX12_orderedOf, cX12_orderedOf, 3, some .int)) h ?_)
      intro r1 I1 L1 h
      refine jr_icmp_ge dX12_asksGoes_22 (tgt := 56) (by decide) (fun c => ?_) (fun c => ?_)
      · rw [if_pos c] at h
        exact jr_return dX12_asksGoes_56 ⟨Or.inl ⟨rfl, rfl⟩, _, _, rfl, h⟩
      · rw [if_neg c] at h
        refine jr_aload_n dX12_asksGoes_25 rfl rfl ?_
        refine jr_geta ff_X12_52 ks_71 rr_71_33 dX12_asksGoes_26 ?_
        refine jr_aload_n dX12_asksGoes_29 rfl rfl ?_
        refine jv_geti rfl ff_X12_305 ks_71 dX12_asksGoes_30 ?_
        refine jr_aload_n dX12_asksGoes_33 rfl rfl ?_
        refine jr_iload_n dX12_asksGoes_34 rfl rfl ?_
        refine jr_aload_n dX12_asksGoes_35 rfl rfl ?_
        refine jv_geti rfl ff_X12_305 ks_71 dX12_asksGoes_36 ?_
        refine jr_callV (mc2 := 0) (mc := 0) (ms2 := 0) (ms := 0) vm_X12_246 (av := [.int x1, .int (I1 71 34)]) (st := [.int (I1 71 34), .ref 84]) rfl rfl ks_71 (by decide) rfl (Nat.le_of_ble_eq_true rfl) dX12_asksGoes_39 (cI_use (M := (yX12_goerAt, cX12_goerAt, 3, some .int)) h ?_)
        intro r2 I2 L2 h
        obtain ⟨g3, h⟩ := h
        refine jr_iastore rfl ks_84 dX12_asksGoes_42 g3 ?_
        refine jr_aload_n dX12_asksGoes_43 rfl rfl ?_
        refine jr_dup dX12_asksGoes_44 rfl ?_
        refine jv_geti (u2n (by decide)) ff_X12_305 ks_71 dX12_asksGoes_45 ?_
        refine jr_iconst dX12_asksGoes_48 kic_1 ?_
        refine jr_iadd dX12_asksGoes_49 ?_
        refine jr_puti ff_X12_305 ks_71 dX12_asksGoes_50 ?_
        refine jr_goto dX12_asksGoes_53 (tgt := 5) (by decide) ?_
        exact J.sub (ih _ _ _ h) (jsub_some (jsub_some jsub_nil))
def wX12_asksGoes (G : jG) (l : Launch) (d : Nat) (x1 : Int32) (I : jS) (L : jL) (Q : Option Value → jS → jL → Prop) : Prop := ∃ e5 : Nat, wX12_asksGoes_5 G l d Q e5 x1 (u2 I 71 34 (0 : Int32)) L
set_option maxRecDepth 100000 in
set_option maxHeartbeats 4000000 in
theorem wX12_asksGoes_ok {G : jG} {l : Launch} {d : Nat} {Q : Option Value → jS → jL → Prop} {x1 : Int32} {I : jS} {L : jL} (h : wX12_asksGoes G l d x1 I L Q) : cM G l mX12_asksGoes (d + 1) [.ref 71, .int x1] I L Q := by
  rw [wX12_asksGoes] at h
  show jCall G l yX12_asksGoes cX12_asksGoes 2 (none) (d + 1) 0 0 _ (jKS, I, L, jR0) _
  refine jCall_of (n0 := 0) (ls := [some (.ref 71), some (.int x1)]) (by decide +kernel) rfl (Nat.le_of_ble_eq_true rfl) (jQm_of ?_)
  refine jr_aload_n dX12_asksGoes_0 rfl rfl ?_
  refine jr_iconst dX12_asksGoes_1 kic_0 ?_
  refine jr_puti ff_X12_305 ks_71 dX12_asksGoes_2 ?_
  obtain ⟨e5, h⟩ := h
  exact J.sub (wX12_asksGoes_5_ok  e5 _ _ _ h) (jsub_some (jsub_some jsub_nil))
def wX12_asksThin_28 (G : jG) (l : Launch) (d : Nat) (k10 : Int32 → jS → jL → Prop) (Q : Option Value → jS → jL → Prop) : Nat → Int32 → Int32 → Int32 → jS → jL → Prop
  | 0, _, _, _, _, _ => False
  | n28 + 1, x1, x2, x3, I, L => if (I 71 34) ≤ x3 then ((x2 = 0 ∨ x2 = 1) ∧ vp_in (I 71 21) 256 ∧ (k10 x1 (u2 (u2 I 85 ((I 71 21).toNatClampNeg) x2) 71 21 ((I 71 21) + (1 : Int32))) L)) else (vp_in x3 4 ∧ (cI G l mX12_crosses d [.ref 71, .int (I 84 x3.toNatClampNeg), .int x1] I L (fun r3 I3 L3 => ((wX12_asksThin_28 G l d k10 Q n28) x1 (x2 &&& r3) (x3 + (1 : Int32)) I3 L3))))
set_option maxRecDepth 100000 in
set_option maxHeartbeats 4000000 in
theorem wX12_asksThin_28_ok {G : jG} {l : Launch} {d : Nat} {Q : Option Value → jS → jL → Prop} {k10 : Int32 → jS → jL → Prop} (hk10 : ∀ (x1 : Int32) (I : jS) (L : jL), k10 x1 I L → J G l yX12_asksThin cX12_asksThin 4 (d + 1) 0 0 10 [some (.ref 71), some (.int x1), none, none] [] (jKS, I, L, jR0) (jQm (none) Q)) : ∀ (n : Nat) (x1 : Int32) (x2 : Int32) (x3 : Int32) (I : jS) (L : jL), wX12_asksThin_28 G l d k10 Q n x1 x2 x3 I L → J G l yX12_asksThin cX12_asksThin 4 (d + 1) 0 0 28 [some (.ref 71), some (.int x1), some (.int x2), some (.int x3)] [] (jKS, I, L, jR0) (jQm (none) Q) := by
  intro n
  induction n with
  | zero => intro x1 x2 x3 I L h; exact h.elim
  | succ n ih =>
    intro x1 x2 x3 I L h
    rw [wX12_asksThin_28] at h
    refine jr_iload_n dX12_asksThin_28 rfl rfl ?_
    refine jr_aload_n dX12_asksThin_29 rfl rfl ?_
    refine jv_geti rfl ff_X12_305 ks_71 dX12_asksThin_30 ?_
    refine jr_icmp_ge dX12_asksThin_33 (tgt := 56) (by decide) (fun c => ?_) (fun c => ?_)
    · rw [if_pos c] at h
      refine jr_aload_n dX12_asksThin_56 rfl rfl ?_
      refine jr_geta ff_X12_55 ks_71 rr_71_35 dX12_asksThin_57 ?_
      refine jr_aload_n dX12_asksThin_60 rfl rfl ?_
      refine jv_geti rfl ff_X12_216 ks_71 dX12_asksThin_61 ?_
      refine jr_iload_n dX12_asksThin_64 rfl rfl ?_
      obtain ⟨q1, g1, h⟩ := h
      refine jr_bastore rfl ks_85 q1 dX12_asksThin_65 g1 ?_
      refine jr_aload_n dX12_asksThin_66 rfl rfl ?_
      refine jr_dup dX12_asksThin_67 rfl ?_
      refine jv_geti (u2n (by decide)) ff_X12_216 ks_71 dX12_asksThin_68 ?_
      refine jr_iconst dX12_asksThin_71 kic_1 ?_
      refine jr_iadd dX12_asksThin_72 ?_
      refine jr_puti ff_X12_216 ks_71 dX12_asksThin_73 ?_
      refine jr_goto dX12_asksThin_76 (tgt := 10) (by decide) ?_
      exact J.sub (hk10 _ _ _ h) (jsub_some (jsub_some (jsub_none (jsub_none jsub_nil))))
    · rw [if_neg c] at h
      refine jr_iload_n dX12_asksThin_36 rfl rfl ?_
      refine jr_aload_n dX12_asksThin_37 rfl rfl ?_
      refine jr_aload_n dX12_asksThin_38 rfl rfl ?_
      refine jr_geta ff_X12_52 ks_71 rr_71_33 dX12_asksThin_39 ?_
      refine jr_iload_n dX12_asksThin_42 rfl rfl ?_
      obtain ⟨g2, h⟩ := h
      refine jv_iaload rfl rfl ks_84 dX12_asksThin_43 g2 ?_
      refine jr_iload_n dX12_asksThin_44 rfl rfl ?_
      refine jr_callV (mc2 := 0) (mc := 0) (ms2 := 0) (ms := 0) vm_X12_249 (av := [.int (I 84 x3.toNatClampNeg), .int x1]) (st := [.int x2]) rfl rfl ks_71 (by decide) rfl (Nat.le_of_ble_eq_true rfl) dX12_asksThin_45 (cI_use (M := (yX12_crosses, cX12_crosses, 3, some .boolean)) h ?_)
      intro r3 I3 L3 h
      refine jr_iand dX12_asksThin_48 ?_
      refine jr_istore_n dX12_asksThin_49 rfl (by decide) rfl ?_
      refine jr_iinc dX12_asksThin_50 rfl (by rw [kic_1]) (by decide) rfl ?_
      refine jr_goto dX12_asksThin_53 (tgt := 28) (by decide) ?_
      exact J.sub (ih _ _ _ _ _ h) (jsub_some (jsub_some (jsub_some (jsub_some jsub_nil))))
def wX12_asksThin_10 (G : jG) (l : Launch) (d : Nat) (Q : Option Value → jS → jL → Prop) : Nat → Int32 → jS → jL → Prop
  | 0, _, _, _ => False
  | n10 + 1, x1, I, L => if (256 : Int32) ≤ (I 71 21) then (Q none (u2 I 71 21 (0 : Int32)) L) else (cV G l mX12_begins1 d [.ref 71] I L (fun I1 L1 => (∃ e28 : Nat, wX12_asksThin_28 G l d (fun z0 I L => wX12_asksThin_10 G l d Q n10 z0 I L) Q e28 x1 (1 : Int32) (0 : Int32) I1 L1)))
set_option maxRecDepth 100000 in
set_option maxHeartbeats 4000000 in
theorem wX12_asksThin_10_ok {G : jG} {l : Launch} {d : Nat} {Q : Option Value → jS → jL → Prop} : ∀ (n : Nat) (x1 : Int32) (I : jS) (L : jL), wX12_asksThin_10 G l d Q n x1 I L → J G l yX12_asksThin cX12_asksThin 4 (d + 1) 0 0 10 [some (.ref 71), some (.int x1), none, none] [] (jKS, I, L, jR0) (jQm (none) Q) := by
  intro n
  induction n with
  | zero => intro x1 I L h; exact h.elim
  | succ n ih =>
    intro x1 I L h
    rw [wX12_asksThin_10] at h
    refine jr_aload_n dX12_asksThin_10 rfl rfl ?_
    refine jv_geti rfl ff_X12_216 ks_71 dX12_asksThin_11 ?_
    refine jr_sipush dX12_asksThin_14 ksp_256 ?_
    refine jr_icmp_ge dX12_asksThin_17 (tgt := 79) (by decide) (fun c => ?_) (fun c => ?_)
    · rw [if_pos c] at h
      refine jr_aload_n dX12_asksThin_79 rfl rfl ?_
      refine jr_iconst dX12_asksThin_80 kic_0 ?_
      refine jr_puti ff_X12_216 ks_71 dX12_asksThin_81 ?_
      exact jr_return dX12_asksThin_84 ⟨Or.inl ⟨rfl, rfl⟩, _, _, rfl, h⟩
    · rw [if_neg c] at h
      refine jr_aload_n dX12_asksThin_20 rfl rfl ?_
      refine jr_callV (mc2 := 0) (mc := 0) (ms2 := 0) (ms := 0) vm_X12_146 (av := []) (st := []) rfl rfl ks_71 (by decide) rfl (Nat.le_of_ble_eq_true rfl) dX12_asksThin_21 (cV_use (M := (yX12_begins1, cX12_begins1, 2, none)) h ?_)
      intro I1 L1 h
      refine jr_iconst dX12_asksThin_24 kic_1 ?_
      refine jr_istore_n dX12_asksThin_25 rfl (by decide) rfl ?_
      refine jr_iconst dX12_asksThin_26 kic_0 ?_
      refine jr_istore_n dX12_asksThin_27 rfl (by decide) rfl ?_
      obtain ⟨e28, h⟩ := h
      exact J.sub (wX12_asksThin_28_ok  ih e28 _ _ _ _ _ h) (jsub_some (jsub_some (jsub_some (jsub_some jsub_nil))))
def wX12_asksThin (G : jG) (l : Launch) (d : Nat) (x1 : Int32) (I : jS) (L : jL) (Q : Option Value → jS → jL → Prop) : Prop := ∃ e10 : Nat, wX12_asksThin_10 G l d Q e10 x1 (u2 (u2 I 71 22 x1) 71 21 (0 : Int32)) L
set_option maxRecDepth 100000 in
set_option maxHeartbeats 4000000 in
theorem wX12_asksThin_ok {G : jG} {l : Launch} {d : Nat} {Q : Option Value → jS → jL → Prop} {x1 : Int32} {I : jS} {L : jL} (h : wX12_asksThin G l d x1 I L Q) : cM G l mX12_asksThin (d + 1) [.ref 71, .int x1] I L Q := by
  rw [wX12_asksThin] at h
  show jCall G l yX12_asksThin cX12_asksThin 4 (none) (d + 1) 0 0 _ (jKS, I, L, jR0) _
  refine jCall_of (n0 := 2) (ls := [some (.ref 71), some (.int x1), none, none]) (by decide +kernel) rfl (Nat.le_of_ble_eq_true rfl) (jQm_of ?_)
  refine jr_aload_n dX12_asksThin_0 rfl rfl ?_
  refine jr_iload_n dX12_asksThin_1 rfl rfl ?_
  refine jr_puti ff_X12_213 ks_71 dX12_asksThin_2 ?_
  refine jr_aload_n dX12_asksThin_5 rfl rfl ?_
  refine jr_iconst dX12_asksThin_6 kic_0 ?_
  refine jr_puti ff_X12_216 ks_71 dX12_asksThin_7 ?_
  obtain ⟨e10, h⟩ := h
  exact J.sub (wX12_asksThin_10_ok  e10 _ _ _ h) (jsub_some (jsub_some (jsub_none (jsub_none jsub_nil))))
def wX12_likelyWays_5 (G : jG) (l : Launch) (d : Nat) (Q : Option Value → jS → jL → Prop) : Nat → Int32 → Int32 → Int64 → Int32 → jS → jL → Prop
  | 0, _, _, _, _, _, _ => False
  | n5 + 1, x1, x2, y3, x5, I, L => if (256 : Int32) ≤ x5 then (Q (some (.long y3)) I L) else (vp_in x5 256 ∧ (if (I 85 x5.toNatClampNeg) = 0 then ((wX12_likelyWays_5 G l d Q n5) x1 x2 (y3 + (0 : Int64)) (x5 + (1 : Int32)) I L) else (cJ G l mX12_waysOf d [.ref 71, .int x1, .int x5, .int x2] I L (fun r2 I2 L2 => ((wX12_likelyWays_5 G l d Q n5) x1 x2 (y3 + r2) (x5 + (1 : Int32)) I2 L2)))))
set_option maxRecDepth 100000 in
set_option maxHeartbeats 4000000 in
theorem wX12_likelyWays_5_ok {G : jG} {l : Launch} {d : Nat} {Q : Option Value → jS → jL → Prop} : ∀ (n : Nat) (x1 : Int32) (x2 : Int32) (y3 : Int64) (x5 : Int32) (I : jS) (L : jL), wX12_likelyWays_5 G l d Q n x1 x2 y3 x5 I L → J G l yX12_likelyWays cX12_likelyWays 6 (d + 1) 0 0 5 [some (.ref 71), some (.int x1), some (.int x2), some (.long y3), none, some (.int x5)] [] (jKS, I, L, jR0) (jQm (some .long) Q) := by
  intro n
  induction n with
  | zero => intro x1 x2 y3 x5 I L h; exact h.elim
  | succ n ih =>
    intro x1 x2 y3 x5 I L h
    rw [wX12_likelyWays_5] at h
    refine jr_iload dX12_likelyWays_5 rfl ?_
    refine jr_sipush dX12_likelyWays_7 ksp_256 ?_
    refine jr_icmp_ge dX12_likelyWays_10 (tgt := 44) (by decide) (fun c => ?_) (fun c => ?_)
    · rw [if_pos c] at h
      refine jr_lload_n dX12_likelyWays_44 rfl rfl ?_
      exact jr_lreturn dX12_likelyWays_45 ⟨Or.inr (Or.inr (Or.inl ⟨rfl, _, rfl⟩)), _, _, rfl, h⟩
    · rw [if_neg c] at h
      refine jr_lload_n dX12_likelyWays_13 rfl rfl ?_
      refine jr_aload_n dX12_likelyWays_14 rfl rfl ?_
      refine jr_geta ff_X12_55 ks_71 rr_71_35 dX12_likelyWays_15 ?_
      refine jr_iload dX12_likelyWays_18 rfl ?_
      obtain ⟨g1, h⟩ := h
      refine jv_baload rfl rfl ks_85 dX12_likelyWays_20 g1 ?_
      refine jr_if_eq dX12_likelyWays_21 (tgt := 35) (by decide) (fun c => ?_) (fun c => ?_)
      · rw [if_pos c] at h
        refine jr_lconst dX12_likelyWays_35 klc_0 ?_
        refine jr_ladd dX12_likelyWays_36 ?_
        refine jr_lstore_n dX12_likelyWays_37 rfl (by decide) rfl ?_
        refine jr_iinc dX12_likelyWays_38 rfl (by rw [kic_1]) (by decide) rfl ?_
        refine jr_goto dX12_likelyWays_41 (tgt := 5) (by decide) ?_
        exact J.sub (ih _ _ _ _ _ _ h) (jsub_some (jsub_some (jsub_some (jsub_some (jsub_none (jsub_some jsub_nil))))))
      · rw [if_neg c] at h
        refine jr_aload_n dX12_likelyWays_24 rfl rfl ?_
        refine jr_iload_n dX12_likelyWays_25 rfl rfl ?_
        refine jr_iload dX12_likelyWays_26 rfl ?_
        refine jr_iload_n dX12_likelyWays_28 rfl rfl ?_
        refine jr_callV (mc2 := 0) (mc := 0) (ms2 := 0) (ms := 0) vm_X12_308 (av := [.int x1, .int x5, .int x2]) (st := [.long y3]) rfl rfl ks_71 (by decide) rfl (Nat.le_of_ble_eq_true rfl) dX12_likelyWays_29 (cJ_use (M := (yX12_waysOf, cX12_waysOf, 8, some .long)) h ?_)
        intro r2 I2 L2 h
        refine jr_goto dX12_likelyWays_32 (tgt := 36) (by decide) ?_
        refine jr_ladd dX12_likelyWays_36 ?_
        refine jr_lstore_n dX12_likelyWays_37 rfl (by decide) rfl ?_
        refine jr_iinc dX12_likelyWays_38 rfl (by rw [kic_1]) (by decide) rfl ?_
        refine jr_goto dX12_likelyWays_41 (tgt := 5) (by decide) ?_
        exact J.sub (ih _ _ _ _ _ _ h) (jsub_some (jsub_some (jsub_some (jsub_some (jsub_none (jsub_some jsub_nil))))))
def wX12_likelyWays (G : jG) (l : Launch) (d : Nat) (x1 : Int32) (x2 : Int32) (I : jS) (L : jL) (Q : Option Value → jS → jL → Prop) : Prop := ∃ e5 : Nat, wX12_likelyWays_5 G l d Q e5 x1 x2 (0 : Int64) (0 : Int32) I L
set_option maxRecDepth 100000 in
set_option maxHeartbeats 4000000 in
theorem wX12_likelyWays_ok {G : jG} {l : Launch} {d : Nat} {Q : Option Value → jS → jL → Prop} {x1 : Int32} {x2 : Int32} {I : jS} {L : jL} (h : wX12_likelyWays G l d x1 x2 I L Q) : cM G l mX12_likelyWays (d + 1) [.ref 71, .int x1, .int x2] I L Q := by
  rw [wX12_likelyWays] at h
  show jCall G l yX12_likelyWays cX12_likelyWays 6 (some .long) (d + 1) 0 0 _ (jKS, I, L, jR0) _
  refine jCall_of (n0 := 3) (ls := [some (.ref 71), some (.int x1), some (.int x2), none, none, none]) (by decide +kernel) rfl (Nat.le_of_ble_eq_true rfl) (jQm_of ?_)
  refine jr_lconst dX12_likelyWays_0 klc_0 ?_
  refine jr_lstore_n dX12_likelyWays_1 rfl (by decide) rfl ?_
  refine jr_iconst dX12_likelyWays_2 kic_0 ?_
  refine jr_istore dX12_likelyWays_3 (by decide) rfl ?_
  obtain ⟨e5, h⟩ := h
  exact J.sub (wX12_likelyWays_5_ok  e5 _ _ _ _ _ _ h) (jsub_some (jsub_some (jsub_some (jsub_some (jsub_none (jsub_some jsub_nil))))))

def wX12_commonOf_6 (G : jG) (l : Launch) (d : Nat) (Q : Option Value → jS → jL → Prop) : Nat → Int64 → Int64 → jS → jL → Prop
  | 0, _, _, _, _ => False
  | n6 + 1, y4, y6, I, L => if (lg_cmp y6 (0 : Int64)) = 0 then (Q (some (.long y4)) I L) else (¬ y6 = 0 ∧ ((wX12_commonOf_6 G l d Q n6) y6 (y4 - y4 / y6 * y6) I L))
set_option maxRecDepth 100000 in
set_option maxHeartbeats 4000000 in
theorem wX12_commonOf_6_ok {G : jG} {l : Launch} {d : Nat} {Q : Option Value → jS → jL → Prop} : ∀ (n : Nat) (y4 : Int64) (y6 : Int64) (I : jS) (L : jL), wX12_commonOf_6 G l d Q n y4 y6 I L → J G l yX12_commonOf cX12_commonOf 10 (d + 1) 0 0 6 [none, none, none, none, some (.long y4), none, some (.long y6), none, none, none] [] (jKS, I, L, jR0) (jQm (some .long) Q) := by
  intro n
  induction n with
  | zero => intro y4 y6 I L h; exact h.elim
  | succ n ih =>
    intro y4 y6 I L h
    rw [wX12_commonOf_6] at h
    refine jr_lload dX12_commonOf_6 rfl ?_
    refine jr_lconst dX12_commonOf_8 klc_0 ?_
    refine jr_lcmp dX12_commonOf_9 ?_
    refine jr_if_eq dX12_commonOf_10 (tgt := 31) (by decide) (fun c => ?_) (fun c => ?_)
    · rw [if_pos c] at h
      refine jr_lload dX12_commonOf_31 rfl ?_
      exact jr_lreturn dX12_commonOf_33 ⟨Or.inr (Or.inr (Or.inl ⟨rfl, _, rfl⟩)), _, _, rfl, h⟩
    · rw [if_neg c] at h
      refine jr_lload dX12_commonOf_13 rfl ?_
      refine jr_lload dX12_commonOf_15 rfl ?_
      obtain ⟨g1, h⟩ := h
      refine jr_lrem dX12_commonOf_17 g1 ?_
      refine jr_lstore dX12_commonOf_18 (by decide) rfl ?_
      refine jr_lload dX12_commonOf_20 rfl ?_
      refine jr_lstore dX12_commonOf_22 (by decide) rfl ?_
      refine jr_lload dX12_commonOf_24 rfl ?_
      refine jr_lstore dX12_commonOf_26 (by decide) rfl ?_
      refine jr_goto dX12_commonOf_28 (tgt := 6) (by decide) ?_
      exact J.sub (ih _ _ _ _ h) (jsub_none (jsub_none (jsub_none (jsub_none (jsub_some (jsub_none (jsub_some (jsub_none (jsub_none (jsub_none jsub_nil))))))))))
def wX12_commonOf (G : jG) (l : Launch) (d : Nat) (y0 : Int64) (y2 : Int64) (I : jS) (L : jL) (Q : Option Value → jS → jL → Prop) : Prop := ∃ e6 : Nat, wX12_commonOf_6 G l d Q e6 y0 y2 I L
set_option maxRecDepth 100000 in
set_option maxHeartbeats 4000000 in
theorem wX12_commonOf_ok {G : jG} {l : Launch} {d : Nat} {Q : Option Value → jS → jL → Prop} {y0 : Int64} {y2 : Int64} {I : jS} {L : jL} (h : wX12_commonOf G l d y0 y2 I L Q) : cM G l mX12_commonOf (d + 1) [.long y0, .long y2] I L Q := by
  rw [wX12_commonOf] at h
  show jCall G l yX12_commonOf cX12_commonOf 10 (some .long) (d + 1) 0 0 _ (jKS, I, L, jR0) _
  refine jCall_of (n0 := 6) (ls := [some (.long y0), none, some (.long y2), none, none, none, none, none, none, none]) (by decide +kernel) rfl (Nat.le_of_ble_eq_true rfl) (jQm_of ?_)
  refine jr_lload_n dX12_commonOf_0 rfl rfl ?_
  refine jr_lstore dX12_commonOf_1 (by decide) rfl ?_
  refine jr_lload_n dX12_commonOf_3 rfl rfl ?_
  refine jr_lstore dX12_commonOf_4 (by decide) rfl ?_
  obtain ⟨e6, h⟩ := h
  exact J.sub (wX12_commonOf_6_ok  e6 _ _ _ _ h) (jsub_none (jsub_none (jsub_none (jsub_none (jsub_some (jsub_none (jsub_some (jsub_none (jsub_none (jsub_none jsub_nil))))))))))
def wX12_partOf (G : jG) (l : Launch) (d : Nat) (y0 : Int64) (y2 : Int64) (x4 : Int32) (I : jS) (L : jL) (Q : Option Value → jS → jL → Prop) : Prop := if (lg_cmp y0 (0 : Int64)) = 0 then (Q (some (.long (x4.toInt64))) I L) else (cJ G l mX12_commonOf d [.long y2, .long y0] I L (fun r1 I1 L1 => (if x4 = 0 then (¬ r1 = 0 ∧ (Q (some (.long (y0 / r1))) I1 L1)) else (¬ r1 = 0 ∧ (Q (some (.long (y2 / r1))) I1 L1)))))
set_option maxRecDepth 100000 in
set_option maxHeartbeats 4000000 in
theorem wX12_partOf_ok {G : jG} {l : Launch} {d : Nat} {Q : Option Value → jS → jL → Prop} {y0 : Int64} {y2 : Int64} {x4 : Int32} {I : jS} {L : jL} (h : wX12_partOf G l d y0 y2 x4 I L Q) : cM G l mX12_partOf (d + 1) [.long y0, .long y2, .int x4] I L Q := by
  rw [wX12_partOf] at h
  show jCall G l yX12_partOf cX12_partOf 7 (some .long) (d + 1) 0 0 _ (jKS, I, L, jR0) _
  refine jCall_of (n0 := 2) (ls := [some (.long y0), none, some (.long y2), none, some (.int x4), none, none]) (by decide +kernel) rfl (Nat.le_of_ble_eq_true rfl) (jQm_of ?_)
  refine jr_lload_n dX12_partOf_0 rfl rfl ?_
  refine jr_lconst dX12_partOf_1 klc_0 ?_
  refine jr_lcmp dX12_partOf_2 ?_
  refine jr_if_ne dX12_partOf_3 (tgt := 10) (by decide) (fun c => ?_) (fun c => ?_)
  · rw [if_neg c] at h
    refine jr_lload_n dX12_partOf_10 rfl rfl ?_
    refine jr_lload_n dX12_partOf_11 rfl rfl ?_
    refine jr_callS (mc2 := 0) (mc := 0) (ms2 := 0) (ms := 0) vm_X12_312 (av := [.long y2, .long y0]) (st := []) rfl rfl (Nat.le_of_ble_eq_true rfl) dX12_partOf_12 (cJ_use (M := (yX12_commonOf, cX12_commonOf, 10, some .long)) h ?_)
    intro r1 I1 L1 h
    refine jr_lstore dX12_partOf_15 (by decide) rfl ?_
    refine jr_iload dX12_partOf_17 rfl ?_
    refine jr_if_ne dX12_partOf_19 (tgt := 29) (by decide) (fun c => ?_) (fun c => ?_)
    · rw [if_neg c] at h
      refine jr_lload_n dX12_partOf_29 rfl rfl ?_
      refine jr_lload dX12_partOf_30 rfl ?_
      obtain ⟨g2, h⟩ := h
      refine jr_ldiv dX12_partOf_32 g2 ?_
      exact jr_lreturn dX12_partOf_33 ⟨Or.inr (Or.inr (Or.inl ⟨rfl, _, rfl⟩)), _, _, rfl, h⟩
    · rw [if_pos c] at h
      refine jr_lload_n dX12_partOf_22 rfl rfl ?_
      refine jr_lload dX12_partOf_23 rfl ?_
      obtain ⟨g3, h⟩ := h
      refine jr_ldiv dX12_partOf_25 g3 ?_
      refine jr_goto dX12_partOf_26 (tgt := 33) (by decide) ?_
      exact jr_lreturn dX12_partOf_33 ⟨Or.inr (Or.inr (Or.inl ⟨rfl, _, rfl⟩)), _, _, rfl, h⟩
  · rw [if_pos c] at h
    refine jr_iload dX12_partOf_6 rfl ?_
    refine jr_i2l dX12_partOf_8 ?_
    exact jr_lreturn dX12_partOf_9 ⟨Or.inr (Or.inr (Or.inl ⟨rfl, _, rfl⟩)), _, _, rfl, h⟩
def wX12_unsure (G : jG) (l : Launch) (d : Nat) (x1 : Int32) (x2 : Int32) (x3 : Int32) (I : jS) (L : jL) (Q : Option Value → jS → jL → Prop) : Prop := cI G l mX12_bytesIs d [.ref 71, .int x1] I L (fun r1 I1 L1 => (if r1 = (1 : Int32) then (cI G l mX12_isWay d [.long (x2.toInt64)] I1 L1 (fun r2 I2 L2 => (if r2 = 0 then (Q (some (.long (-9223372036854775808 : Int64))) I2 L2) else (cI G l mX12_within d [.long (x3.toInt64), .long (0 : Int64), .long (1 : Int64)] I2 L2 (fun r3 I3 L3 => (if r3 = 0 then (Q (some (.long (-9223372036854775808 : Int64))) I3 L3) else (cV G l mX12_asksGoes d [.ref 71, .int x1] I3 L3 (fun I4 L4 => (cV G l mX12_asksThin d [.ref 71, .int x2] I4 L4 (fun I5 L5 => (cJ G l mX12_likelyWays d [.ref 71, .int x2, .int (-1 : Int32)] I5 L5 (fun r6 I6 L6 => (cJ G l mX12_partOf d [.long r6, .long (429981696 : Int64), .int x3] I6 L6 (fun r7 I7 L7 => (Q (some (.long r7)) I7 L7))))))))))))))) else (Q (some (.long (-9223372036854775808 : Int64))) I1 L1)))
set_option maxRecDepth 100000 in
set_option maxHeartbeats 4000000 in
theorem wX12_unsure_ok {G : jG} {l : Launch} {d : Nat} {Q : Option Value → jS → jL → Prop} {x1 : Int32} {x2 : Int32} {x3 : Int32} {I : jS} {L : jL} (h : wX12_unsure G l d x1 x2 x3 I L Q) : cM G l mX12_unsure (d + 1) [.ref 71, .int x1, .int x2, .int x3] I L Q := by
  rw [wX12_unsure] at h
  show jCall G l yX12_unsure cX12_unsure 4 (some .long) (d + 1) 0 0 _ (jKS, I, L, jR0) _
  refine jCall_of (n0 := 0) (ls := [some (.ref 71), some (.int x1), some (.int x2), some (.int x3)]) (by decide +kernel) rfl (Nat.le_of_ble_eq_true rfl) (jQm_of ?_)
  refine jr_aload_n dX12_unsure_0 rfl rfl ?_
  refine jr_iload_n dX12_unsure_1 rfl rfl ?_
  refine jr_callV (mc2 := 0) (mc := 0) (ms2 := 0) (ms := 0) vm_X12_252 (av := [.int x1]) (st := []) rfl rfl ks_71 (by decide) rfl (Nat.le_of_ble_eq_true rfl) dX12_unsure_2 (cI_use (M := (yX12_bytesIs, cX12_bytesIs, 2, some .int)) h ?_)
  intro r1 I1 L1 h
  refine jr_iconst dX12_unsure_5 kic_1 ?_
  refine jr_icmp_ne dX12_unsure_6 (tgt := 27) (by decide) (fun c => ?_) (fun c => ?_)
  · rw [if_neg c] at h
    refine jr_ldc2 kl_X12_316 dX12_unsure_27 ?_
    exact jr_lreturn dX12_unsure_30 ⟨Or.inr (Or.inr (Or.inl ⟨rfl, _, rfl⟩)), _, _, rfl, h⟩
  · rw [if_pos c] at h
    refine jr_iload_n dX12_unsure_9 rfl rfl ?_
    refine jr_i2l dX12_unsure_10 ?_
    refine jr_callS (mc2 := 0) (mc := 0) (ms2 := 0) (ms := 0) vm_X12_255 (av := [.long (x2.toInt64)]) (st := []) rfl rfl (Nat.le_of_ble_eq_true rfl) dX12_unsure_11 (cI_use (M := (yX12_isWay, cX12_isWay, 2, some .boolean)) h ?_)
    intro r2 I2 L2 h
    refine jr_if_eq dX12_unsure_14 (tgt := 27) (by decide) (fun c => ?_) (fun c => ?_)
    · rw [if_pos c] at h
      refine jr_ldc2 kl_X12_316 dX12_unsure_27 ?_
      exact jr_lreturn dX12_unsure_30 ⟨Or.inr (Or.inr (Or.inl ⟨rfl, _, rfl⟩)), _, _, rfl, h⟩
    · rw [if_neg c] at h
      refine jr_iload_n dX12_unsure_17 rfl rfl ?_
      refine jr_i2l dX12_unsure_18 ?_
      refine jr_lconst dX12_unsure_19 klc_0 ?_
      refine jr_lconst dX12_unsure_20 klc_1 ?_
      refine jr_callS (mc2 := 0) (mc := 0) (ms2 := 0) (ms := 0) vm_X12_96 (av := [.long (x3.toInt64), .long (0 : Int64), .long (1 : Int64)]) (st := []) rfl rfl (Nat.le_of_ble_eq_true rfl) dX12_unsure_21 (cI_use (M := (yX12_within, cX12_within, 6, some .boolean)) h ?_)
      intro r3 I3 L3 h
      refine jr_if_ne dX12_unsure_24 (tgt := 31) (by decide) (fun c => ?_) (fun c => ?_)
      · rw [if_neg c] at h
        refine jr_aload_n dX12_unsure_31 rfl rfl ?_
        refine jr_iload_n dX12_unsure_32 rfl rfl ?_
        refine jr_callV (mc2 := 0) (mc := 0) (ms2 := 0) (ms := 0) vm_X12_318 (av := [.int x1]) (st := []) rfl rfl ks_71 (by decide) rfl (Nat.le_of_ble_eq_true rfl) dX12_unsure_33 (cV_use (M := (yX12_asksGoes, cX12_asksGoes, 2, none)) h ?_)
        intro I4 L4 h
        refine jr_aload_n dX12_unsure_36 rfl rfl ?_
        refine jr_iload_n dX12_unsure_37 rfl rfl ?_
        refine jr_callV (mc2 := 0) (mc := 0) (ms2 := 0) (ms := 0) vm_X12_321 (av := [.int x2]) (st := []) rfl rfl ks_71 (by decide) rfl (Nat.le_of_ble_eq_true rfl) dX12_unsure_38 (cV_use (M := (yX12_asksThin, cX12_asksThin, 4, none)) h ?_)
        intro I5 L5 h
        refine jr_aload_n dX12_unsure_41 rfl rfl ?_
        refine jr_iload_n dX12_unsure_42 rfl rfl ?_
        refine jr_iconst dX12_unsure_43 kic_m1 ?_
        refine jr_callV (mc2 := 0) (mc := 0) (ms2 := 0) (ms := 0) vm_X12_324 (av := [.int x2, .int (-1 : Int32)]) (st := []) rfl rfl ks_71 (by decide) rfl (Nat.le_of_ble_eq_true rfl) dX12_unsure_44 (cJ_use (M := (yX12_likelyWays, cX12_likelyWays, 6, some .long)) h ?_)
        intro r6 I6 L6 h
        refine jr_ldc2 kl_X12_328 dX12_unsure_47 ?_
        refine jr_iload_n dX12_unsure_50 rfl rfl ?_
        refine jr_callS (mc2 := 0) (mc := 0) (ms2 := 0) (ms := 0) vm_X12_330 (av := [.long r6, .long (429981696 : Int64), .int x3]) (st := []) rfl rfl (Nat.le_of_ble_eq_true rfl) dX12_unsure_51 (cJ_use (M := (yX12_partOf, cX12_partOf, 7, some .long)) h ?_)
        intro r7 I7 L7 h
        exact jr_lreturn dX12_unsure_54 ⟨Or.inr (Or.inr (Or.inl ⟨rfl, _, rfl⟩)), _, _, rfl, h⟩
      · rw [if_pos c] at h
        refine jr_ldc2 kl_X12_316 dX12_unsure_27 ?_
        exact jr_lreturn dX12_unsure_30 ⟨Or.inr (Or.inr (Or.inl ⟨rfl, _, rfl⟩)), _, _, rfl, h⟩
def wX12_bore_85 (G : jG) (l : Launch) (d : Nat) (k54 : Int32 → Int32 → Int32 → Int64 → Int32 → jS → jL → Prop) (Q : Option Value → jS → jL → Prop) (x2 : Int32) (x3 : Int32) (y5 : Int64) (x7 : Int32) (y8 : Int64) (t0 : Int32) (I : jS) (L : jL) : Prop := if (lg_cmp y8 y5) ≤ 0 then (k54 x2 x3 t0 y5 (x7 + (1 : Int32)) I L) else (k54 x2 x3 t0 y8 (x7 + (1 : Int32)) I L)
set_option maxRecDepth 100000 in
set_option maxHeartbeats 4000000 in
theorem wX12_bore_85_ok {G : jG} {l : Launch} {d : Nat} {Q : Option Value → jS → jL → Prop} {k54 : Int32 → Int32 → Int32 → Int64 → Int32 → jS → jL → Prop} (hk54 : ∀ (x2 : Int32) (x3 : Int32) (x4 : Int32) (y5 : Int64) (x7 : Int32) (I : jS) (L : jL), k54 x2 x3 x4 y5 x7 I L → J G l yX12_bore cX12_bore 10 (d + 1) 0 0 54 [some (.ref 71), none, some (.int x2), some (.int x3), some (.int x4), some (.long y5), none, some (.int x7), none, none] [] (jKS, I, L, jR0) (jQm (some .long) Q)) : ∀ (x2 : Int32) (x3 : Int32) (y5 : Int64) (x7 : Int32) (y8 : Int64) (t0 : Int32) (I : jS) (L : jL), wX12_bore_85 G l d k54 Q x2 x3 y5 x7 y8 t0 I L → J G l yX12_bore cX12_bore 10 (d + 1) 0 0 85 [some (.ref 71), none, some (.int x2), some (.int x3), none, some (.long y5), none, some (.int x7), some (.long y8), none] [.int t0] (jKS, I, L, jR0) (jQm (some .long) Q) := by
  intro x2 x3 y5 x7 y8 t0 I L h
  rw [wX12_bore_85] at h
  refine jr_istore dX12_bore_85 (by decide) rfl ?_
  refine jr_lload dX12_bore_87 rfl ?_
  refine jr_lload dX12_bore_89 rfl ?_
  refine jr_lcmp dX12_bore_91 ?_
  refine jr_if_le dX12_bore_92 (tgt := 100) (by decide) (fun c => ?_) (fun c => ?_)
  · rw [if_pos c] at h
    refine jr_lload dX12_bore_100 rfl ?_
    refine jr_lstore dX12_bore_102 (by decide) rfl ?_
    refine jr_iinc dX12_bore_104 rfl (by rw [kic_1]) (by decide) rfl ?_
    refine jr_goto dX12_bore_107 (tgt := 54) (by decide) ?_
    exact J.sub (hk54 _ _ _ _ _ _ _ h) (jsub_some (jsub_none (jsub_some (jsub_some (jsub_some (jsub_some (jsub_none (jsub_some (jsub_none (jsub_none jsub_nil))))))))))
  · rw [if_neg c] at h
    refine jr_lload dX12_bore_95 rfl ?_
    refine jr_goto dX12_bore_97 (tgt := 102) (by decide) ?_
    refine jr_lstore dX12_bore_102 (by decide) rfl ?_
    refine jr_iinc dX12_bore_104 rfl (by rw [kic_1]) (by decide) rfl ?_
    refine jr_goto dX12_bore_107 (tgt := 54) (by decide) ?_
    exact J.sub (hk54 _ _ _ _ _ _ _ h) (jsub_some (jsub_none (jsub_some (jsub_some (jsub_some (jsub_some (jsub_none (jsub_some (jsub_none (jsub_none jsub_nil))))))))))
def wX12_bore_54 (G : jG) (l : Launch) (d : Nat) (Q : Option Value → jS → jL → Prop) : Nat → Int32 → Int32 → Int32 → Int64 → Int32 → jS → jL → Prop
  | 0, _, _, _, _, _, _, _ => False
  | n54 + 1, x2, x3, x4, y5, x7, I, L => if (8 : Int32) ≤ x7 then (if x3 = (2 : Int32) then (Q (some (.long ((((8 : Int32) * x2) + x4).toInt64))) I L) else (cJ G l mX12_partOf d [.long y5, .long (429981696 : Int64), .int x3] I L (fun r1 I1 L1 => (Q (some (.long r1)) I1 L1)))) else (cJ G l mX12_likelyWays d [.ref 71, .int x2, .int x7] I L (fun r2 I2 L2 => (if (lg_cmp r2 y5) ≤ 0 then (wX12_bore_85 G l d (fun z0 z1 z2 z3 z4 I L => wX12_bore_54 G l d Q n54 z0 z1 z2 z3 z4 I L) Q x2 x3 y5 x7 r2 x4 I2 L2) else (wX12_bore_85 G l d (fun z0 z1 z2 z3 z4 I L => wX12_bore_54 G l d Q n54 z0 z1 z2 z3 z4 I L) Q x2 x3 y5 x7 r2 x7 I2 L2))))
set_option maxRecDepth 100000 in
set_option maxHeartbeats 4000000 in
theorem wX12_bore_54_ok {G : jG} {l : Launch} {d : Nat} {Q : Option Value → jS → jL → Prop} : ∀ (n : Nat) (x2 : Int32) (x3 : Int32) (x4 : Int32) (y5 : Int64) (x7 : Int32) (I : jS) (L : jL), wX12_bore_54 G l d Q n x2 x3 x4 y5 x7 I L → J G l yX12_bore cX12_bore 10 (d + 1) 0 0 54 [some (.ref 71), none, some (.int x2), some (.int x3), some (.int x4), some (.long y5), none, some (.int x7), none, none] [] (jKS, I, L, jR0) (jQm (some .long) Q) := by
  intro n
  induction n with
  | zero => intro x2 x3 x4 y5 x7 I L h; exact h.elim
  | succ n ih =>
    intro x2 x3 x4 y5 x7 I L h
    rw [wX12_bore_54] at h
    refine jr_iload dX12_bore_54 rfl ?_
    refine jr_bipush dX12_bore_56 kbp_8 ?_
    refine jr_icmp_ge dX12_bore_58 (tgt := 110) (by decide) (fun c => ?_) (fun c => ?_)
    · rw [if_pos c] at h
      refine jr_iload_n dX12_bore_110 rfl rfl ?_
      refine jr_iconst dX12_bore_111 kic_2 ?_
      refine jr_icmp_ne dX12_bore_112 (tgt := 126) (by decide) (fun c => ?_) (fun c => ?_)
      · rw [if_neg c] at h
        refine jr_lload dX12_bore_126 rfl ?_
        refine jr_ldc2 kl_X12_328 dX12_bore_128 ?_
        refine jr_iload_n dX12_bore_131 rfl rfl ?_
        refine jr_callS (mc2 := 0) (mc := 0) (ms2 := 0) (ms := 0) vm_X12_330 (av := [.long y5, .long (429981696 : Int64), .int x3]) (st := []) rfl rfl (Nat.le_of_ble_eq_true rfl) dX12_bore_132 (cJ_use (M := (yX12_partOf, cX12_partOf, 7, some .long)) h ?_)
        intro r1 I1 L1 h
        exact jr_lreturn dX12_bore_135 ⟨Or.inr (Or.inr (Or.inl ⟨rfl, _, rfl⟩)), _, _, rfl, h⟩
      · rw [if_pos c] at h
        refine jr_bipush dX12_bore_115 kbp_8 ?_
        refine jr_iload_n dX12_bore_117 rfl rfl ?_
        refine jr_imul dX12_bore_118 ?_
        refine jr_iload dX12_bore_119 rfl ?_
        refine jr_iadd dX12_bore_121 ?_
        refine jr_i2l dX12_bore_122 ?_
        refine jr_goto dX12_bore_123 (tgt := 135) (by decide) ?_
        exact jr_lreturn dX12_bore_135 ⟨Or.inr (Or.inr (Or.inl ⟨rfl, _, rfl⟩)), _, _, rfl, h⟩
    · rw [if_neg c] at h
      refine jr_aload_n dX12_bore_61 rfl rfl ?_
      refine jr_iload_n dX12_bore_62 rfl rfl ?_
      refine jr_iload dX12_bore_63 rfl ?_
      refine jr_callV (mc2 := 0) (mc := 0) (ms2 := 0) (ms := 0) vm_X12_324 (av := [.int x2, .int x7]) (st := []) rfl rfl ks_71 (by decide) rfl (Nat.le_of_ble_eq_true rfl) dX12_bore_65 (cJ_use (M := (yX12_likelyWays, cX12_likelyWays, 6, some .long)) h ?_)
      intro r2 I2 L2 h
      refine jr_lstore dX12_bore_68 (by decide) rfl ?_
      refine jr_lload dX12_bore_70 rfl ?_
      refine jr_lload dX12_bore_72 rfl ?_
      refine jr_lcmp dX12_bore_74 ?_
      refine jr_if_le dX12_bore_75 (tgt := 83) (by decide) (fun c => ?_) (fun c => ?_)
      · rw [if_pos c] at h
        refine jr_iload dX12_bore_83 rfl ?_
        exact J.sub (wX12_bore_85_ok  ih _ _ _ _ _ _ _ _ h) (jsub_some (jsub_none (jsub_some (jsub_some (jsub_none (jsub_some (jsub_none (jsub_some (jsub_some (jsub_none jsub_nil))))))))))
      · rw [if_neg c] at h
        refine jr_iload dX12_bore_78 rfl ?_
        refine jr_goto dX12_bore_80 (tgt := 85) (by decide) ?_
        exact J.sub (wX12_bore_85_ok  ih _ _ _ _ _ _ _ _ h) (jsub_some (jsub_none (jsub_some (jsub_some (jsub_none (jsub_some (jsub_none (jsub_some (jsub_some (jsub_none jsub_nil))))))))))
def wX12_bore (G : jG) (l : Launch) (d : Nat) (x1 : Int32) (x2 : Int32) (x3 : Int32) (I : jS) (L : jL) (Q : Option Value → jS → jL → Prop) : Prop := cI G l mX12_bytesIs d [.ref 71, .int x1] I L (fun r1 I1 L1 => (if r1 = (1 : Int32) then (cI G l mX12_isWay d [.long (x2.toInt64)] I1 L1 (fun r2 I2 L2 => (if r2 = 0 then (Q (some (.long (-9223372036854775808 : Int64))) I2 L2) else (cI G l mX12_within d [.long (x3.toInt64), .long (0 : Int64), .long (2 : Int64)] I2 L2 (fun r3 I3 L3 => (if r3 = 0 then (Q (some (.long (-9223372036854775808 : Int64))) I3 L3) else (cV G l mX12_asksGoes d [.ref 71, .int x1] I3 L3 (fun I4 L4 => (cV G l mX12_asksThin d [.ref 71, .int x2] I4 L4 (fun I5 L5 => (∃ e54 : Nat, wX12_bore_54 G l d Q e54 x2 x3 (0 : Int32) (-1 : Int64) (0 : Int32) I5 L5))))))))))) else (Q (some (.long (-9223372036854775808 : Int64))) I1 L1)))
set_option maxRecDepth 100000 in
set_option maxHeartbeats 4000000 in
theorem wX12_bore_ok {G : jG} {l : Launch} {d : Nat} {Q : Option Value → jS → jL → Prop} {x1 : Int32} {x2 : Int32} {x3 : Int32} {I : jS} {L : jL} (h : wX12_bore G l d x1 x2 x3 I L Q) : cM G l mX12_bore (d + 1) [.ref 71, .int x1, .int x2, .int x3] I L Q := by
  rw [wX12_bore] at h
  show jCall G l yX12_bore cX12_bore 10 (some .long) (d + 1) 0 0 _ (jKS, I, L, jR0) _
  refine jCall_of (n0 := 6) (ls := [some (.ref 71), some (.int x1), some (.int x2), some (.int x3), none, none, none, none, none, none]) (by decide +kernel) rfl (Nat.le_of_ble_eq_true rfl) (jQm_of ?_)
  refine jr_aload_n dX12_bore_0 rfl rfl ?_
  refine jr_iload_n dX12_bore_1 rfl rfl ?_
  refine jr_callV (mc2 := 0) (mc := 0) (ms2 := 0) (ms := 0) vm_X12_252 (av := [.int x1]) (st := []) rfl rfl ks_71 (by decide) rfl (Nat.le_of_ble_eq_true rfl) dX12_bore_2 (cI_use (M := (yX12_bytesIs, cX12_bytesIs, 2, some .int)) h ?_)
  intro r1 I1 L1 h
  refine jr_iconst dX12_bore_5 kic_1 ?_
  refine jr_icmp_ne dX12_bore_6 (tgt := 29) (by decide) (fun c => ?_) (fun c => ?_)
  · rw [if_neg c] at h
    refine jr_ldc2 kl_X12_316 dX12_bore_29 ?_
    exact jr_lreturn dX12_bore_32 ⟨Or.inr (Or.inr (Or.inl ⟨rfl, _, rfl⟩)), _, _, rfl, h⟩
  · rw [if_pos c] at h
    refine jr_iload_n dX12_bore_9 rfl rfl ?_
    refine jr_i2l dX12_bore_10 ?_
    refine jr_callS (mc2 := 0) (mc := 0) (ms2 := 0) (ms := 0) vm_X12_255 (av := [.long (x2.toInt64)]) (st := []) rfl rfl (Nat.le_of_ble_eq_true rfl) dX12_bore_11 (cI_use (M := (yX12_isWay, cX12_isWay, 2, some .boolean)) h ?_)
    intro r2 I2 L2 h
    refine jr_if_eq dX12_bore_14 (tgt := 29) (by decide) (fun c => ?_) (fun c => ?_)
    · rw [if_pos c] at h
      refine jr_ldc2 kl_X12_316 dX12_bore_29 ?_
      exact jr_lreturn dX12_bore_32 ⟨Or.inr (Or.inr (Or.inl ⟨rfl, _, rfl⟩)), _, _, rfl, h⟩
    · rw [if_neg c] at h
      refine jr_iload_n dX12_bore_17 rfl rfl ?_
      refine jr_i2l dX12_bore_18 ?_
      refine jr_lconst dX12_bore_19 klc_0 ?_
      refine jr_ldc2 kl_X12_100 dX12_bore_20 ?_
      refine jr_callS (mc2 := 0) (mc := 0) (ms2 := 0) (ms := 0) vm_X12_96 (av := [.long (x3.toInt64), .long (0 : Int64), .long (2 : Int64)]) (st := []) rfl rfl (Nat.le_of_ble_eq_true rfl) dX12_bore_23 (cI_use (M := (yX12_within, cX12_within, 6, some .boolean)) h ?_)
      intro r3 I3 L3 h
      refine jr_if_ne dX12_bore_26 (tgt := 33) (by decide) (fun c => ?_) (fun c => ?_)
      · rw [if_neg c] at h
        refine jr_aload_n dX12_bore_33 rfl rfl ?_
        refine jr_iload_n dX12_bore_34 rfl rfl ?_
        refine jr_callV (mc2 := 0) (mc := 0) (ms2 := 0) (ms := 0) vm_X12_318 (av := [.int x1]) (st := []) rfl rfl ks_71 (by decide) rfl (Nat.le_of_ble_eq_true rfl) dX12_bore_35 (cV_use (M := (yX12_asksGoes, cX12_asksGoes, 2, none)) h ?_)
        intro I4 L4 h
        refine jr_aload_n dX12_bore_38 rfl rfl ?_
        refine jr_iload_n dX12_bore_39 rfl rfl ?_
        refine jr_callV (mc2 := 0) (mc := 0) (ms2 := 0) (ms := 0) vm_X12_321 (av := [.int x2]) (st := []) rfl rfl ks_71 (by decide) rfl (Nat.le_of_ble_eq_true rfl) dX12_bore_40 (cV_use (M := (yX12_asksThin, cX12_asksThin, 4, none)) h ?_)
        intro I5 L5 h
        refine jr_iconst dX12_bore_43 kic_0 ?_
        refine jr_istore dX12_bore_44 (by decide) rfl ?_
        refine jr_ldc2 kl_X12_334 dX12_bore_46 ?_
        refine jr_lstore dX12_bore_49 (by decide) rfl ?_
        refine jr_iconst dX12_bore_51 kic_0 ?_
        refine jr_istore dX12_bore_52 (by decide) rfl ?_
        obtain ⟨e54, h⟩ := h
        exact J.sub (wX12_bore_54_ok  e54 _ _ _ _ _ _ _ h) (jsub_some (jsub_none (jsub_some (jsub_some (jsub_some (jsub_some (jsub_none (jsub_some (jsub_none (jsub_none jsub_nil))))))))))
      · rw [if_pos c] at h
        refine jr_ldc2 kl_X12_316 dX12_bore_29 ?_
        exact jr_lreturn dX12_bore_32 ⟨Or.inr (Or.inr (Or.inl ⟨rfl, _, rfl⟩)), _, _, rfl, h⟩
def wX12_safe_66 (G : jG) (l : Launch) (d : Nat) (k20 : Int32 → Int32 → Int64 → Int32 → jS → jL → Prop) (Q : Option Value → jS → jL → Prop) (x1 : Int32) (y3 : Int64) (x5 : Int32) (y6 : Int64) (t0 : Int32) (I : jS) (L : jL) : Prop := if (lg_cmp y6 y3) ≤ 0 then (k20 x1 t0 y3 (x5 + (1 : Int32)) I L) else (k20 x1 t0 y6 (x5 + (1 : Int32)) I L)
set_option maxRecDepth 100000 in
set_option maxHeartbeats 4000000 in
theorem wX12_safe_66_ok {G : jG} {l : Launch} {d : Nat} {Q : Option Value → jS → jL → Prop} {k20 : Int32 → Int32 → Int64 → Int32 → jS → jL → Prop} (hk20 : ∀ (x1 : Int32) (x2 : Int32) (y3 : Int64) (x5 : Int32) (I : jS) (L : jL), k20 x1 x2 y3 x5 I L → J G l yX12_safe cX12_safe 8 (d + 1) 0 0 20 [some (.ref 71), some (.int x1), some (.int x2), some (.long y3), none, some (.int x5), none, none] [] (jKS, I, L, jR0) (jQm (some .int) Q)) : ∀ (x1 : Int32) (y3 : Int64) (x5 : Int32) (y6 : Int64) (t0 : Int32) (I : jS) (L : jL), wX12_safe_66 G l d k20 Q x1 y3 x5 y6 t0 I L → J G l yX12_safe cX12_safe 8 (d + 1) 0 0 66 [some (.ref 71), some (.int x1), none, some (.long y3), none, some (.int x5), some (.long y6), none] [.int t0] (jKS, I, L, jR0) (jQm (some .int) Q) := by
  intro x1 y3 x5 y6 t0 I L h
  rw [wX12_safe_66] at h
  refine jr_istore_n dX12_safe_66 rfl (by decide) rfl ?_
  refine jr_lload dX12_safe_67 rfl ?_
  refine jr_lload_n dX12_safe_69 rfl rfl ?_
  refine jr_lcmp dX12_safe_70 ?_
  refine jr_if_le dX12_safe_71 (tgt := 79) (by decide) (fun c => ?_) (fun c => ?_)
  · rw [if_pos c] at h
    refine jr_lload_n dX12_safe_79 rfl rfl ?_
    refine jr_lstore_n dX12_safe_80 rfl (by decide) rfl ?_
    refine jr_iinc dX12_safe_81 rfl (by rw [kic_1]) (by decide) rfl ?_
    refine jr_goto dX12_safe_84 (tgt := 20) (by decide) ?_
    exact J.sub (hk20 _ _ _ _ _ _ h) (jsub_some (jsub_some (jsub_some (jsub_some (jsub_none (jsub_some (jsub_none (jsub_none jsub_nil))))))))
  · rw [if_neg c] at h
    refine jr_lload dX12_safe_74 rfl ?_
    refine jr_goto dX12_safe_76 (tgt := 80) (by decide) ?_
    refine jr_lstore_n dX12_safe_80 rfl (by decide) rfl ?_
    refine jr_iinc dX12_safe_81 rfl (by rw [kic_1]) (by decide) rfl ?_
    refine jr_goto dX12_safe_84 (tgt := 20) (by decide) ?_
    exact J.sub (hk20 _ _ _ _ _ _ h) (jsub_some (jsub_some (jsub_some (jsub_some (jsub_none (jsub_some (jsub_none (jsub_none jsub_nil))))))))
def wX12_safe_20 (G : jG) (l : Launch) (d : Nat) (Q : Option Value → jS → jL → Prop) : Nat → Int32 → Int32 → Int64 → Int32 → jS → jL → Prop
  | 0, _, _, _, _, _, _ => False
  | n20 + 1, x1, x2, y3, x5, I, L => if (3 : Int32) ≤ x5 then (Q (some (.int x2)) I L) else (cV G l mX12_asksThin d [.ref 71, .int x5] (u2 (u2 I 84 0 x1) 71 34 (1 : Int32)) L (fun I1 L1 => (cJ G l mX12_likelyWays d [.ref 71, .int x5, .int (-1 : Int32)] I1 L1 (fun r2 I2 L2 => (if (lg_cmp r2 y3) ≤ 0 then (wX12_safe_66 G l d (fun z0 z1 z2 z3 I L => wX12_safe_20 G l d Q n20 z0 z1 z2 z3 I L) Q x1 y3 x5 r2 x2 I2 L2) else (wX12_safe_66 G l d (fun z0 z1 z2 z3 I L => wX12_safe_20 G l d Q n20 z0 z1 z2 z3 I L) Q x1 y3 x5 r2 x5 I2 L2))))))
set_option maxRecDepth 100000 in
set_option maxHeartbeats 4000000 in
theorem wX12_safe_20_ok {G : jG} {l : Launch} {d : Nat} {Q : Option Value → jS → jL → Prop} : ∀ (n : Nat) (x1 : Int32) (x2 : Int32) (y3 : Int64) (x5 : Int32) (I : jS) (L : jL), wX12_safe_20 G l d Q n x1 x2 y3 x5 I L → J G l yX12_safe cX12_safe 8 (d + 1) 0 0 20 [some (.ref 71), some (.int x1), some (.int x2), some (.long y3), none, some (.int x5), none, none] [] (jKS, I, L, jR0) (jQm (some .int) Q) := by
  intro n
  induction n with
  | zero => intro x1 x2 y3 x5 I L h; exact h.elim
  | succ n ih =>
    intro x1 x2 y3 x5 I L h
    rw [wX12_safe_20] at h
    refine jr_iload dX12_safe_20 rfl ?_
    refine jr_iconst dX12_safe_22 kic_3 ?_
    refine jr_icmp_ge dX12_safe_23 (tgt := 87) (by decide) (fun c => ?_) (fun c => ?_)
    · rw [if_pos c] at h
      refine jr_iload_n dX12_safe_87 rfl rfl ?_
      exact jr_ireturn dX12_safe_88 ⟨Or.inr (Or.inl ⟨rfl, _, rfl⟩), _, _, rfl, h⟩
    · rw [if_neg c] at h
      refine jr_aload_n dX12_safe_26 rfl rfl ?_
      refine jr_geta ff_X12_52 ks_71 rr_71_33 dX12_safe_27 ?_
      refine jr_iconst dX12_safe_30 kic_0 ?_
      refine jr_iload_n dX12_safe_31 rfl rfl ?_
      refine jr_iastore nn_0 ks_84 dX12_safe_32 vin_0_4 ?_
      refine jr_aload_n dX12_safe_33 rfl rfl ?_
      refine jr_iconst dX12_safe_34 kic_1 ?_
      refine jr_puti ff_X12_305 ks_71 dX12_safe_35 ?_
      refine jr_aload_n dX12_safe_38 rfl rfl ?_
      refine jr_iload dX12_safe_39 rfl ?_
      refine jr_callV (mc2 := 0) (mc := 0) (ms2 := 0) (ms := 0) vm_X12_321 (av := [.int x5]) (st := []) rfl rfl ks_71 (by decide) rfl (Nat.le_of_ble_eq_true rfl) dX12_safe_41 (cV_use (M := (yX12_asksThin, cX12_asksThin, 4, none)) h ?_)
      intro I1 L1 h
      refine jr_aload_n dX12_safe_44 rfl rfl ?_
      refine jr_iload dX12_safe_45 rfl ?_
      refine jr_iconst dX12_safe_47 kic_m1 ?_
      refine jr_callV (mc2 := 0) (mc := 0) (ms2 := 0) (ms := 0) vm_X12_324 (av := [.int x5, .int (-1 : Int32)]) (st := []) rfl rfl ks_71 (by decide) rfl (Nat.le_of_ble_eq_true rfl) dX12_safe_48 (cJ_use (M := (yX12_likelyWays, cX12_likelyWays, 6, some .long)) h ?_)
      intro r2 I2 L2 h
      refine jr_lstore dX12_safe_51 (by decide) rfl ?_
      refine jr_lload dX12_safe_53 rfl ?_
      refine jr_lload_n dX12_safe_55 rfl rfl ?_
      refine jr_lcmp dX12_safe_56 ?_
      refine jr_if_le dX12_safe_57 (tgt := 65) (by decide) (fun c => ?_) (fun c => ?_)
      · rw [if_pos c] at h
        refine jr_iload_n dX12_safe_65 rfl rfl ?_
        exact J.sub (wX12_safe_66_ok  ih _ _ _ _ _ _ _ h) (jsub_some (jsub_some (jsub_none (jsub_some (jsub_none (jsub_some (jsub_some (jsub_none jsub_nil))))))))
      · rw [if_neg c] at h
        refine jr_iload dX12_safe_60 rfl ?_
        refine jr_goto dX12_safe_62 (tgt := 66) (by decide) ?_
        exact J.sub (wX12_safe_66_ok  ih _ _ _ _ _ _ _ h) (jsub_some (jsub_some (jsub_none (jsub_some (jsub_none (jsub_some (jsub_some (jsub_none jsub_nil))))))))
def wX12_safe (G : jG) (l : Launch) (d : Nat) (x1 : Int32) (I : jS) (L : jL) (Q : Option Value → jS → jL → Prop) : Prop := cI G l mX12_isGoer d [.ref 71, .long (x1.toInt64)] I L (fun r1 I1 L1 => (if r1 = 0 then (Q (some (.int (-1 : Int32))) I1 L1) else (∃ e20 : Nat, wX12_safe_20 G l d Q e20 x1 (0 : Int32) (-1 : Int64) (0 : Int32) I1 L1)))
set_option maxRecDepth 100000 in
set_option maxHeartbeats 4000000 in
theorem wX12_safe_ok {G : jG} {l : Launch} {d : Nat} {Q : Option Value → jS → jL → Prop} {x1 : Int32} {I : jS} {L : jL} (h : wX12_safe G l d x1 I L Q) : cM G l mX12_safe (d + 1) [.ref 71, .int x1] I L Q := by
  rw [wX12_safe] at h
  show jCall G l yX12_safe cX12_safe 8 (some .int) (d + 1) 0 0 _ (jKS, I, L, jR0) _
  refine jCall_of (n0 := 6) (ls := [some (.ref 71), some (.int x1), none, none, none, none, none, none]) (by decide +kernel) rfl (Nat.le_of_ble_eq_true rfl) (jQm_of ?_)
  refine jr_aload_n dX12_safe_0 rfl rfl ?_
  refine jr_iload_n dX12_safe_1 rfl rfl ?_
  refine jr_i2l dX12_safe_2 ?_
  refine jr_callV (mc2 := 0) (mc := 0) (ms2 := 0) (ms := 0) vm_X12_125 (av := [.long (x1.toInt64)]) (st := []) rfl rfl ks_71 (by decide) rfl (Nat.le_of_ble_eq_true rfl) dX12_safe_3 (cI_use (M := (yX12_isGoer, cX12_isGoer, 3, some .boolean)) h ?_)
  intro r1 I1 L1 h
  refine jr_if_ne dX12_safe_6 (tgt := 11) (by decide) (fun c => ?_) (fun c => ?_)
  · rw [if_neg c] at h
    refine jr_iconst dX12_safe_11 kic_0 ?_
    refine jr_istore_n dX12_safe_12 rfl (by decide) rfl ?_
    refine jr_ldc2 kl_X12_334 dX12_safe_13 ?_
    refine jr_lstore_n dX12_safe_16 rfl (by decide) rfl ?_
    refine jr_iconst dX12_safe_17 kic_0 ?_
    refine jr_istore dX12_safe_18 (by decide) rfl ?_
    obtain ⟨e20, h⟩ := h
    exact J.sub (wX12_safe_20_ok  e20 _ _ _ _ _ _ h) (jsub_some (jsub_some (jsub_some (jsub_some (jsub_none (jsub_some (jsub_none (jsub_none jsub_nil))))))))
  · rw [if_pos c] at h
    refine jr_iconst dX12_safe_9 kic_m1 ?_
    exact jr_ireturn dX12_safe_10 ⟨Or.inr (Or.inl ⟨rfl, _, rfl⟩), _, _, rfl, h⟩
def wX12_leaves_68 (G : jG) (l : Launch) (d : Nat) (k38 : Int32 → Int32 → Int32 → Int32 → Int32 → jS → jL → Prop) (Q : Option Value → jS → jL → Prop) (x1 : Int32) (x2 : Int32) (x3 : Int32) (x5 : Int32) (t0 : Int32) (I : jS) (L : jL) : Prop := k38 x1 x2 x3 (t0 &&& (1 : Int32)) (x5 + (1 : Int32)) I L
set_option maxRecDepth 100000 in
set_option maxHeartbeats 4000000 in
theorem wX12_leaves_68_ok {G : jG} {l : Launch} {d : Nat} {Q : Option Value → jS → jL → Prop} {k38 : Int32 → Int32 → Int32 → Int32 → Int32 → jS → jL → Prop} (hk38 : ∀ (x1 : Int32) (x2 : Int32) (x3 : Int32) (x4 : Int32) (x5 : Int32) (I : jS) (L : jL), k38 x1 x2 x3 x4 x5 I L → J G l yX12_leaves cX12_leaves 6 (d + 1) 0 0 38 [some (.ref 71), some (.int x1), some (.int x2), some (.int x3), some (.int x4), some (.int x5)] [] (jKS, I, L, jR0) (jQm (some .boolean) Q)) : ∀ (x1 : Int32) (x2 : Int32) (x3 : Int32) (x5 : Int32) (t0 : Int32) (I : jS) (L : jL), wX12_leaves_68 G l d k38 Q x1 x2 x3 x5 t0 I L → J G l yX12_leaves cX12_leaves 6 (d + 1) 0 0 68 [some (.ref 71), some (.int x1), some (.int x2), some (.int x3), none, some (.int x5)] [.int t0] (jKS, I, L, jR0) (jQm (some .boolean) Q) := by
  intro x1 x2 x3 x5 t0 I L h
  rw [wX12_leaves_68] at h
  refine jr_iconst dX12_leaves_68 kic_1 ?_
  refine jr_goto dX12_leaves_69 (tgt := 73) (by decide) ?_
  refine jr_iand dX12_leaves_73 ?_
  refine jr_istore dX12_leaves_74 (by decide) rfl ?_
  refine jr_iinc dX12_leaves_76 rfl (by rw [kic_1]) (by decide) rfl ?_
  refine jr_goto dX12_leaves_79 (tgt := 38) (by decide) ?_
  exact J.sub (hk38 _ _ _ _ _ _ _ h) (jsub_some (jsub_some (jsub_some (jsub_some (jsub_some (jsub_some jsub_nil))))))
def wX12_leaves_85 (G : jG) (l : Launch) (d : Nat) (Q : Option Value → jS → jL → Prop) : Nat → Int32 → Int32 → Int32 → Int32 → jS → jL → Prop
  | 0, _, _, _, _, _, _ => False
  | n85 + 1, x1, x2, x4, x5, I, L => if (8 : Int32) ≤ x5 then ((x4 = 0 ∨ x4 = 1) ∧ Q (some (.int x4)) I L) else (vp_in x1 6 ∧ (if (I 90 x1.toNatClampNeg) ≤ x5 then ((x4 = 0 ∨ x4 = 1) ∧ Q (some (.int x4)) I L) else (vp_in (((60 : Int32) * x1) + x5) 360 ∧ (vp_in (((8 : Int32) * x2) + x5) 24 ∧ (if (lg_cmp (L 91 ((((60 : Int32) * x1) + x5).toNatClampNeg)) ((I 80 ((((8 : Int32) * x2) + x5).toNatClampNeg)).toInt64)) = 0 then ((wX12_leaves_85 G l d Q n85) x1 x2 (x4 &&& (1 : Int32)) (x5 + (1 : Int32)) I L) else ((wX12_leaves_85 G l d Q n85) x1 x2 (x4 &&& (0 : Int32)) (x5 + (1 : Int32)) I L))))))
set_option maxRecDepth 100000 in
set_option maxHeartbeats 4000000 in
theorem wX12_leaves_85_ok {G : jG} {l : Launch} {d : Nat} {Q : Option Value → jS → jL → Prop} : ∀ (n : Nat) (x1 : Int32) (x2 : Int32) (x4 : Int32) (x5 : Int32) (I : jS) (L : jL), wX12_leaves_85 G l d Q n x1 x2 x4 x5 I L → J G l yX12_leaves cX12_leaves 6 (d + 1) 0 0 85 [some (.ref 71), some (.int x1), some (.int x2), none, some (.int x4), some (.int x5)] [] (jKS, I, L, jR0) (jQm (some .boolean) Q) := by
  intro n
  induction n with
  | zero => intro x1 x2 x4 x5 I L h; exact h.elim
  | succ n ih =>
    intro x1 x2 x4 x5 I L h
    rw [wX12_leaves_85] at h
    refine jr_iload dX12_leaves_85 rfl ?_
    refine jr_bipush dX12_leaves_87 kbp_8 ?_
    refine jr_icmp_ge dX12_leaves_89 (tgt := 148) (by decide) (fun c => ?_) (fun c => ?_)
    · rw [if_pos c] at h
      refine jr_iload dX12_leaves_148 rfl ?_
      obtain ⟨gz, h⟩ := h
      exact jr_ireturn dX12_leaves_150 ⟨Or.inr (Or.inr (Or.inr ⟨rfl, gz.imp (fun e => by rw [e]) (fun e => by rw [e])⟩)), _, _, rfl, h⟩
    · rw [if_neg c] at h
      refine jr_iload dX12_leaves_92 rfl ?_
      refine jr_aload_n dX12_leaves_94 rfl rfl ?_
      refine jr_geta ff_X12_71 ks_71 rr_71_50 dX12_leaves_95 ?_
      refine jr_iload_n dX12_leaves_98 rfl rfl ?_
      obtain ⟨g1, h⟩ := h
      refine jv_iaload rfl rfl ks_90 dX12_leaves_99 g1 ?_
      refine jr_icmp_ge dX12_leaves_100 (tgt := 148) (by decide) (fun c => ?_) (fun c => ?_)
      · rw [if_pos c] at h
        refine jr_iload dX12_leaves_148 rfl ?_
        obtain ⟨gz, h⟩ := h
        exact jr_ireturn dX12_leaves_150 ⟨Or.inr (Or.inr (Or.inr ⟨rfl, gz.imp (fun e => by rw [e]) (fun e => by rw [e])⟩)), _, _, rfl, h⟩
      · rw [if_neg c] at h
        refine jr_iload dX12_leaves_103 rfl ?_
        refine jr_aload_n dX12_leaves_105 rfl rfl ?_
        refine jr_geta ff_X12_74 ks_71 rr_71_51 dX12_leaves_106 ?_
        refine jr_bipush dX12_leaves_109 kbp_60 ?_
        refine jr_iload_n dX12_leaves_111 rfl rfl ?_
        refine jr_imul dX12_leaves_112 ?_
        refine jr_iload dX12_leaves_113 rfl ?_
        refine jr_iadd dX12_leaves_115 ?_
        obtain ⟨g2, h⟩ := h
        refine jv_laload rfl rfl ks_91 dX12_leaves_116 g2 ?_
        refine jr_aload_n dX12_leaves_117 rfl rfl ?_
        refine jr_geta ff_X12_36 ks_71 rr_71_19 dX12_leaves_118 ?_
        refine jr_bipush dX12_leaves_121 kbp_8 ?_
        refine jr_iload_n dX12_leaves_123 rfl rfl ?_
        refine jr_imul dX12_leaves_124 ?_
        refine jr_iload dX12_leaves_125 rfl ?_
        refine jr_iadd dX12_leaves_127 ?_
        obtain ⟨g3, h⟩ := h
        refine jv_iaload rfl rfl ks_80 dX12_leaves_128 g3 ?_
        refine jr_i2l dX12_leaves_129 ?_
        refine jr_lcmp dX12_leaves_130 ?_
        refine jr_if_ne dX12_leaves_131 (tgt := 138) (by decide) (fun c => ?_) (fun c => ?_)
        · rw [if_neg c] at h
          refine jr_iconst dX12_leaves_138 kic_0 ?_
          refine jr_iand dX12_leaves_139 ?_
          refine jr_istore dX12_leaves_140 (by decide) rfl ?_
          refine jr_iinc dX12_leaves_142 rfl (by rw [kic_1]) (by decide) rfl ?_
          refine jr_goto dX12_leaves_145 (tgt := 85) (by decide) ?_
          exact J.sub (ih _ _ _ _ _ _ h) (jsub_some (jsub_some (jsub_some (jsub_none (jsub_some (jsub_some jsub_nil))))))
        · rw [if_pos c] at h
          refine jr_iconst dX12_leaves_134 kic_1 ?_
          refine jr_goto dX12_leaves_135 (tgt := 139) (by decide) ?_
          refine jr_iand dX12_leaves_139 ?_
          refine jr_istore dX12_leaves_140 (by decide) rfl ?_
          refine jr_iinc dX12_leaves_142 rfl (by rw [kic_1]) (by decide) rfl ?_
          refine jr_goto dX12_leaves_145 (tgt := 85) (by decide) ?_
          exact J.sub (ih _ _ _ _ _ _ h) (jsub_some (jsub_some (jsub_some (jsub_none (jsub_some (jsub_some jsub_nil))))))
def wX12_leaves_38 (G : jG) (l : Launch) (d : Nat) (Q : Option Value → jS → jL → Prop) : Nat → Int32 → Int32 → Int32 → Int32 → Int32 → jS → jL → Prop
  | 0, _, _, _, _, _, _, _ => False
  | n38 + 1, x1, x2, x3, x4, x5, I, L => if (I 71 6) ≤ x5 then (∃ e85 : Nat, wX12_leaves_85 G l d Q e85 x1 x2 x4 (0 : Int32) I L) else (cI G l mX12_isIn d [.int x3, .int x5] I L (fun r1 I1 L1 => (if r1 = 0 then (wX12_leaves_68 G l d (fun z0 z1 z2 z3 z4 I L => wX12_leaves_38 G l d Q n38 z0 z1 z2 z3 z4 I L) Q x1 x2 x3 x5 x4 I1 L1) else (cI G l mX12_crosses d [.ref 71, .int x5, .int x2] I1 L1 (fun r2 I2 L2 => (if r2 = 0 then ((wX12_leaves_38 G l d Q n38) x1 x2 x3 (x4 &&& (0 : Int32)) (x5 + (1 : Int32)) I2 L2) else (wX12_leaves_68 G l d (fun z0 z1 z2 z3 z4 I L => wX12_leaves_38 G l d Q n38 z0 z1 z2 z3 z4 I L) Q x1 x2 x3 x5 x4 I2 L2)))))))
set_option maxRecDepth 100000 in
set_option maxHeartbeats 4000000 in
theorem wX12_leaves_38_ok {G : jG} {l : Launch} {d : Nat} {Q : Option Value → jS → jL → Prop} : ∀ (n : Nat) (x1 : Int32) (x2 : Int32) (x3 : Int32) (x4 : Int32) (x5 : Int32) (I : jS) (L : jL), wX12_leaves_38 G l d Q n x1 x2 x3 x4 x5 I L → J G l yX12_leaves cX12_leaves 6 (d + 1) 0 0 38 [some (.ref 71), some (.int x1), some (.int x2), some (.int x3), some (.int x4), some (.int x5)] [] (jKS, I, L, jR0) (jQm (some .boolean) Q) := by
  intro n
  induction n with
  | zero => intro x1 x2 x3 x4 x5 I L h; exact h.elim
  | succ n ih =>
    intro x1 x2 x3 x4 x5 I L h
    rw [wX12_leaves_38] at h
    refine jr_iload dX12_leaves_38 rfl ?_
    refine jr_aload_n dX12_leaves_40 rfl rfl ?_
    refine jv_geti rfl ff_X12_93 ks_71 dX12_leaves_41 ?_
    refine jr_icmp_ge dX12_leaves_44 (tgt := 82) (by decide) (fun c => ?_) (fun c => ?_)
    · rw [if_pos c] at h
      refine jr_iconst dX12_leaves_82 kic_0 ?_
      refine jr_istore dX12_leaves_83 (by decide) rfl ?_
      obtain ⟨e85, h⟩ := h
      exact J.sub (wX12_leaves_85_ok  e85 _ _ _ _ _ _ h) (jsub_some (jsub_some (jsub_some (jsub_none (jsub_some (jsub_some jsub_nil))))))
    · rw [if_neg c] at h
      refine jr_iload dX12_leaves_47 rfl ?_
      refine jr_iload_n dX12_leaves_49 rfl rfl ?_
      refine jr_iload dX12_leaves_50 rfl ?_
      refine jr_callS (mc2 := 0) (mc := 0) (ms2 := 0) (ms := 0) vm_X12_219 (av := [.int x3, .int x5]) (st := [.int x4]) rfl rfl (Nat.le_of_ble_eq_true rfl) dX12_leaves_52 (cI_use (M := (yX12_isIn, cX12_isIn, 2, some .boolean)) h ?_)
      intro r1 I1 L1 h
      refine jr_if_eq dX12_leaves_55 (tgt := 68) (by decide) (fun c => ?_) (fun c => ?_)
      · rw [if_pos c] at h
        exact J.sub (wX12_leaves_68_ok  ih _ _ _ _ _ _ _ h) (jsub_some (jsub_some (jsub_some (jsub_some (jsub_none (jsub_some jsub_nil))))))
      · rw [if_neg c] at h
        refine jr_aload_n dX12_leaves_58 rfl rfl ?_
        refine jr_iload dX12_leaves_59 rfl ?_
        refine jr_iload_n dX12_leaves_61 rfl rfl ?_
        refine jr_callV (mc2 := 0) (mc := 0) (ms2 := 0) (ms := 0) vm_X12_249 (av := [.int x5, .int x2]) (st := [.int x4]) rfl rfl ks_71 (by decide) rfl (Nat.le_of_ble_eq_true rfl) dX12_leaves_62 (cI_use (M := (yX12_crosses, cX12_crosses, 3, some .boolean)) h ?_)
        intro r2 I2 L2 h
        refine jr_if_eq dX12_leaves_65 (tgt := 72) (by decide) (fun c => ?_) (fun c => ?_)
        · rw [if_pos c] at h
          refine jr_iconst dX12_leaves_72 kic_0 ?_
          refine jr_iand dX12_leaves_73 ?_
          refine jr_istore dX12_leaves_74 (by decide) rfl ?_
          refine jr_iinc dX12_leaves_76 rfl (by rw [kic_1]) (by decide) rfl ?_
          refine jr_goto dX12_leaves_79 (tgt := 38) (by decide) ?_
          exact J.sub (ih _ _ _ _ _ _ _ h) (jsub_some (jsub_some (jsub_some (jsub_some (jsub_some (jsub_some jsub_nil))))))
        · rw [if_neg c] at h
          exact J.sub (wX12_leaves_68_ok  ih _ _ _ _ _ _ _ h) (jsub_some (jsub_some (jsub_some (jsub_some (jsub_none (jsub_some jsub_nil))))))
def wX12_leaves_3 (G : jG) (l : Launch) (d : Nat) (Q : Option Value → jS → jL → Prop) : Nat → Int32 → Int32 → Int32 → Int32 → jS → jL → Prop
  | 0, _, _, _, _, _, _ => False
  | n3 + 1, x1, x2, x3, x4, I, L => if (24 : Int32) ≤ x4 then (∃ e38 : Nat, wX12_leaves_38 G l d Q e38 x1 x2 x3 (1 : Int32) (0 : Int32) (u2 I 71 20 (I 71 8)) L) else (vp_in x4 24 ∧ ((wX12_leaves_3 G l d Q n3) x1 x2 x3 (x4 + (1 : Int32)) (u2 I 80 x4.toNatClampNeg (0 : Int32)) L))
set_option maxRecDepth 100000 in
set_option maxHeartbeats 4000000 in
theorem wX12_leaves_3_ok {G : jG} {l : Launch} {d : Nat} {Q : Option Value → jS → jL → Prop} : ∀ (n : Nat) (x1 : Int32) (x2 : Int32) (x3 : Int32) (x4 : Int32) (I : jS) (L : jL), wX12_leaves_3 G l d Q n x1 x2 x3 x4 I L → J G l yX12_leaves cX12_leaves 6 (d + 1) 0 0 3 [some (.ref 71), some (.int x1), some (.int x2), some (.int x3), some (.int x4), none] [] (jKS, I, L, jR0) (jQm (some .boolean) Q) := by
  intro n
  induction n with
  | zero => intro x1 x2 x3 x4 I L h; exact h.elim
  | succ n ih =>
    intro x1 x2 x3 x4 I L h
    rw [wX12_leaves_3] at h
    refine jr_iload dX12_leaves_3 rfl ?_
    refine jr_bipush dX12_leaves_5 kbp_24 ?_
    refine jr_icmp_ge dX12_leaves_7 (tgt := 24) (by decide) (fun c => ?_) (fun c => ?_)
    · rw [if_pos c] at h
      refine jr_aload_n dX12_leaves_24 rfl rfl ?_
      refine jr_aload_n dX12_leaves_25 rfl rfl ?_
      refine jv_geti rfl ff_X12_153 ks_71 dX12_leaves_26 ?_
      refine jr_puti ff_X12_210 ks_71 dX12_leaves_29 ?_
      refine jr_iconst dX12_leaves_32 kic_1 ?_
      refine jr_istore dX12_leaves_33 (by decide) rfl ?_
      refine jr_iconst dX12_leaves_35 kic_0 ?_
      refine jr_istore dX12_leaves_36 (by decide) rfl ?_
      obtain ⟨e38, h⟩ := h
      exact J.sub (wX12_leaves_38_ok  e38 _ _ _ _ _ _ _ h) (jsub_some (jsub_some (jsub_some (jsub_some (jsub_some (jsub_some jsub_nil))))))
    · rw [if_neg c] at h
      refine jr_aload_n dX12_leaves_10 rfl rfl ?_
      refine jr_geta ff_X12_36 ks_71 rr_71_19 dX12_leaves_11 ?_
      refine jr_iload dX12_leaves_14 rfl ?_
      refine jr_iconst dX12_leaves_16 kic_0 ?_
      obtain ⟨g1, h⟩ := h
      refine jr_iastore rfl ks_80 dX12_leaves_17 g1 ?_
      refine jr_iinc dX12_leaves_18 rfl (by rw [kic_1]) (by decide) rfl ?_
      refine jr_goto dX12_leaves_21 (tgt := 3) (by decide) ?_
      exact J.sub (ih _ _ _ _ _ _ h) (jsub_some (jsub_some (jsub_some (jsub_some (jsub_some (jsub_none jsub_nil))))))
def wX12_leaves (G : jG) (l : Launch) (d : Nat) (x1 : Int32) (x2 : Int32) (x3 : Int32) (I : jS) (L : jL) (Q : Option Value → jS → jL → Prop) : Prop := ∃ e3 : Nat, wX12_leaves_3 G l d Q e3 x1 x2 x3 (0 : Int32) I L
set_option maxRecDepth 100000 in
set_option maxHeartbeats 4000000 in
theorem wX12_leaves_ok {G : jG} {l : Launch} {d : Nat} {Q : Option Value → jS → jL → Prop} {x1 : Int32} {x2 : Int32} {x3 : Int32} {I : jS} {L : jL} (h : wX12_leaves G l d x1 x2 x3 I L Q) : cM G l mX12_leaves (d + 1) [.ref 71, .int x1, .int x2, .int x3] I L Q := by
  rw [wX12_leaves] at h
  show jCall G l yX12_leaves cX12_leaves 6 (some .boolean) (d + 1) 0 0 _ (jKS, I, L, jR0) _
  refine jCall_of (n0 := 2) (ls := [some (.ref 71), some (.int x1), some (.int x2), some (.int x3), none, none]) (by decide +kernel) rfl (Nat.le_of_ble_eq_true rfl) (jQm_of ?_)
  refine jr_iconst dX12_leaves_0 kic_0 ?_
  refine jr_istore dX12_leaves_1 (by decide) rfl ?_
  obtain ⟨e3, h⟩ := h
  exact J.sub (wX12_leaves_3_ok  e3 _ _ _ _ _ _ h) (jsub_some (jsub_some (jsub_some (jsub_some (jsub_some (jsub_none jsub_nil))))))
def wX12_who_99 (G : jG) (l : Launch) (d : Nat) (k65 : Int32 → Int32 → Int32 → Int32 → Int32 → Int32 → Int32 → jS → jL → Prop) (Q : Option Value → jS → jL → Prop) (x1 : Int32) (x2 : Int32) (x3 : Int32) (x4 : Int32) (x6 : Int32) (x7 : Int32) (t0 : Int32) (I : jS) (L : jL) : Prop := k65 x1 x2 x3 (x4 + (1 : Int32)) t0 (x6 &&& x7) (x7 + (1 : Int32)) I L
set_option maxRecDepth 100000 in
set_option maxHeartbeats 4000000 in
theorem wX12_who_99_ok {G : jG} {l : Launch} {d : Nat} {Q : Option Value → jS → jL → Prop} {k65 : Int32 → Int32 → Int32 → Int32 → Int32 → Int32 → Int32 → jS → jL → Prop} (hk65 : ∀ (x1 : Int32) (x2 : Int32) (x3 : Int32) (x4 : Int32) (x5 : Int32) (x6 : Int32) (x7 : Int32) (I : jS) (L : jL), k65 x1 x2 x3 x4 x5 x6 x7 I L → J G l yX12_who cX12_who 8 (d + 1) 0 0 65 [some (.ref 71), some (.int x1), some (.int x2), some (.int x3), some (.int x4), some (.int x5), some (.int x6), some (.int x7)] [] (jKS, I, L, jR0) (jQm (some .int) Q)) : ∀ (x1 : Int32) (x2 : Int32) (x3 : Int32) (x4 : Int32) (x6 : Int32) (x7 : Int32) (t0 : Int32) (I : jS) (L : jL), wX12_who_99 G l d k65 Q x1 x2 x3 x4 x6 x7 t0 I L → J G l yX12_who cX12_who 8 (d + 1) 0 0 99 [some (.ref 71), some (.int x1), some (.int x2), some (.int x3), some (.int x4), none, some (.int x6), some (.int x7)] [.int t0] (jKS, I, L, jR0) (jQm (some .int) Q) := by
  intro x1 x2 x3 x4 x6 x7 t0 I L h
  rw [wX12_who_99] at h
  refine jr_istore dX12_who_99 (by decide) rfl ?_
  refine jr_iinc dX12_who_101 rfl (by rw [kic_1]) (by decide) rfl ?_
  refine jr_iload dX12_who_104 rfl ?_
  refine jr_iload dX12_who_106 rfl ?_
  refine jr_iand dX12_who_108 ?_
  refine jr_istore dX12_who_109 (by decide) rfl ?_
  refine jr_iinc dX12_who_111 rfl (by rw [kic_1]) (by decide) rfl ?_
  refine jr_goto dX12_who_114 (tgt := 65) (by decide) ?_
  exact J.sub (hk65 _ _ _ _ _ _ _ _ _ h) (jsub_some (jsub_some (jsub_some (jsub_some (jsub_some (jsub_some (jsub_some (jsub_some jsub_nil))))))))
def wX12_who_65 (G : jG) (l : Launch) (d : Nat) (Q : Option Value → jS → jL → Prop) : Nat → Int32 → Int32 → Int32 → Int32 → Int32 → Int32 → Int32 → jS → jL → Prop
  | 0, _, _, _, _, _, _, _, _, _ => False
  | n65 + 1, x1, x2, x3, x4, x5, x6, x7, I, L => if ((1 : Int32) <<< ((I 71 6) &&& 31)) ≤ x7 then (if x3 = 0 then (Q (some (.int x4)) I L) else (if x3 = (1 : Int32) then (Q (some (.int x5)) I L) else (if x4 = 0 then (Q (some (.int (0 : Int32))) I L) else (Q (some (.int x6)) I L)))) else (cI G l mX12_leaves d [.ref 71, .int x1, .int x2, .int x7] I L (fun r1 I1 L1 => (if r1 = 0 then ((wX12_who_65 G l d Q n65) x1 x2 x3 x4 x5 x6 (x7 + (1 : Int32)) I1 L1) else (if x4 = 0 then (wX12_who_99 G l d (fun z0 z1 z2 z3 z4 z5 z6 I L => wX12_who_65 G l d Q n65 z0 z1 z2 z3 z4 z5 z6 I L) Q x1 x2 x3 x4 x6 x7 x7 I1 L1) else (wX12_who_99 G l d (fun z0 z1 z2 z3 z4 z5 z6 I L => wX12_who_65 G l d Q n65 z0 z1 z2 z3 z4 z5 z6 I L) Q x1 x2 x3 x4 x6 x7 x5 I1 L1)))))
set_option maxRecDepth 100000 in
set_option maxHeartbeats 4000000 in
theorem wX12_who_65_ok {G : jG} {l : Launch} {d : Nat} {Q : Option Value → jS → jL → Prop} : ∀ (n : Nat) (x1 : Int32) (x2 : Int32) (x3 : Int32) (x4 : Int32) (x5 : Int32) (x6 : Int32) (x7 : Int32) (I : jS) (L : jL), wX12_who_65 G l d Q n x1 x2 x3 x4 x5 x6 x7 I L → J G l yX12_who cX12_who 8 (d + 1) 0 0 65 [some (.ref 71), some (.int x1), some (.int x2), some (.int x3), some (.int x4), some (.int x5), some (.int x6), some (.int x7)] [] (jKS, I, L, jR0) (jQm (some .int) Q) := by
  intro n
  induction n with
  | zero => intro x1 x2 x3 x4 x5 x6 x7 I L h; exact h.elim
  | succ n ih =>
    intro x1 x2 x3 x4 x5 x6 x7 I L h
    rw [wX12_who_65] at h
    refine jr_iload dX12_who_65 rfl ?_
    refine jr_iconst dX12_who_67 kic_1 ?_
    refine jr_aload_n dX12_who_68 rfl rfl ?_
    refine jv_geti rfl ff_X12_93 ks_71 dX12_who_69 ?_
    refine jr_ishl dX12_who_72 ?_
    refine jr_icmp_ge dX12_who_73 (tgt := 117) (by decide) (fun c => ?_) (fun c => ?_)
    · rw [if_pos c] at h
      refine jr_iload_n dX12_who_117 rfl rfl ?_
      refine jr_if_ne dX12_who_118 (tgt := 126) (by decide) (fun c => ?_) (fun c => ?_)
      · rw [if_neg c] at h
        refine jr_iload_n dX12_who_126 rfl rfl ?_
        refine jr_iconst dX12_who_127 kic_1 ?_
        refine jr_icmp_ne dX12_who_128 (tgt := 136) (by decide) (fun c => ?_) (fun c => ?_)
        · rw [if_neg c] at h
          refine jr_iload dX12_who_136 rfl ?_
          refine jr_if_ne dX12_who_138 (tgt := 145) (by decide) (fun c => ?_) (fun c => ?_)
          · rw [if_neg c] at h
            refine jr_iload dX12_who_145 rfl ?_
            exact jr_ireturn dX12_who_147 ⟨Or.inr (Or.inl ⟨rfl, _, rfl⟩), _, _, rfl, h⟩
          · rw [if_pos c] at h
            refine jr_iconst dX12_who_141 kic_0 ?_
            refine jr_goto dX12_who_142 (tgt := 147) (by decide) ?_
            exact jr_ireturn dX12_who_147 ⟨Or.inr (Or.inl ⟨rfl, _, rfl⟩), _, _, rfl, h⟩
        · rw [if_pos c] at h
          refine jr_iload dX12_who_131 rfl ?_
          refine jr_goto dX12_who_133 (tgt := 147) (by decide) ?_
          exact jr_ireturn dX12_who_147 ⟨Or.inr (Or.inl ⟨rfl, _, rfl⟩), _, _, rfl, h⟩
      · rw [if_pos c] at h
        refine jr_iload dX12_who_121 rfl ?_
        refine jr_goto dX12_who_123 (tgt := 147) (by decide) ?_
        exact jr_ireturn dX12_who_147 ⟨Or.inr (Or.inl ⟨rfl, _, rfl⟩), _, _, rfl, h⟩
    · rw [if_neg c] at h
      refine jr_aload_n dX12_who_76 rfl rfl ?_
      refine jr_iload_n dX12_who_77 rfl rfl ?_
      refine jr_iload_n dX12_who_78 rfl rfl ?_
      refine jr_iload dX12_who_79 rfl ?_
      refine jr_callV (mc2 := 0) (mc := 0) (ms2 := 0) (ms := 0) vm_X12_336 (av := [.int x1, .int x2, .int x7]) (st := []) rfl rfl ks_71 (by decide) rfl (Nat.le_of_ble_eq_true rfl) dX12_who_81 (cI_use (M := (yX12_leaves, cX12_leaves, 6, some .boolean)) h ?_)
      intro r1 I1 L1 h
      refine jr_if_eq dX12_who_84 (tgt := 111) (by decide) (fun c => ?_) (fun c => ?_)
      · rw [if_pos c] at h
        refine jr_iinc dX12_who_111 rfl (by rw [kic_1]) (by decide) rfl ?_
        refine jr_goto dX12_who_114 (tgt := 65) (by decide) ?_
        exact J.sub (ih _ _ _ _ _ _ _ _ _ h) (jsub_some (jsub_some (jsub_some (jsub_some (jsub_some (jsub_some (jsub_some (jsub_some jsub_nil))))))))
      · rw [if_neg c] at h
        refine jr_iload dX12_who_87 rfl ?_
        refine jr_if_ne dX12_who_89 (tgt := 97) (by decide) (fun c => ?_) (fun c => ?_)
        · rw [if_neg c] at h
          refine jr_iload dX12_who_97 rfl ?_
          exact J.sub (wX12_who_99_ok  ih _ _ _ _ _ _ _ _ _ h) (jsub_some (jsub_some (jsub_some (jsub_some (jsub_some (jsub_none (jsub_some (jsub_some jsub_nil))))))))
        · rw [if_pos c] at h
          refine jr_iload dX12_who_92 rfl ?_
          refine jr_goto dX12_who_94 (tgt := 99) (by decide) ?_
          exact J.sub (wX12_who_99_ok  ih _ _ _ _ _ _ _ _ _ h) (jsub_some (jsub_some (jsub_some (jsub_some (jsub_some (jsub_none (jsub_some (jsub_some jsub_nil))))))))
def wX12_who (G : jG) (l : Launch) (d : Nat) (x1 : Int32) (x2 : Int32) (x3 : Int32) (I : jS) (L : jL) (Q : Option Value → jS → jL → Prop) : Prop := cI G l mX12_bytesIs d [.ref 71, .int x1] I L (fun r1 I1 L1 => (if r1 = (-1 : Int32) then (Q (some (.int (-1 : Int32))) I1 L1) else (cI G l mX12_isWay d [.long (x2.toInt64)] I1 L1 (fun r2 I2 L2 => (if r2 = 0 then (Q (some (.int (-1 : Int32))) I2 L2) else (cI G l mX12_within d [.long (x3.toInt64), .long (0 : Int64), .long (2 : Int64)] I2 L2 (fun r3 I3 L3 => (if r3 = 0 then (Q (some (.int (-1 : Int32))) I3 L3) else (cI G l mX12_bytesIs d [.ref 71, .int x1] I3 L3 (fun r4 I4 L4 => (if 0 ≤ r4 then (∃ e65 : Nat, wX12_who_65 G l d Q e65 x1 x2 x3 (0 : Int32) (-2 : Int32) (((1 : Int32) <<< ((I4 71 6) &&& 31)) - (1 : Int32)) (0 : Int32) I4 L4) else (cI G l mX12_bytesIs d [.ref 71, .int x1] I4 L4 (fun r5 I5 L5 => (Q (some (.int r5)) I5 L5))))))))))))))
set_option maxRecDepth 100000 in
set_option maxHeartbeats 4000000 in
theorem wX12_who_ok {G : jG} {l : Launch} {d : Nat} {Q : Option Value → jS → jL → Prop} {x1 : Int32} {x2 : Int32} {x3 : Int32} {I : jS} {L : jL} (h : wX12_who G l d x1 x2 x3 I L Q) : cM G l mX12_who (d + 1) [.ref 71, .int x1, .int x2, .int x3] I L Q := by
  rw [wX12_who] at h
  show jCall G l yX12_who cX12_who 8 (some .int) (d + 1) 0 0 _ (jKS, I, L, jR0) _
  refine jCall_of (n0 := 4) (ls := [some (.ref 71), some (.int x1), some (.int x2), some (.int x3), none, none, none, none]) (by decide +kernel) rfl (Nat.le_of_ble_eq_true rfl) (jQm_of ?_)
  refine jr_aload_n dX12_who_0 rfl rfl ?_
  refine jr_iload_n dX12_who_1 rfl rfl ?_
  refine jr_callV (mc2 := 0) (mc := 0) (ms2 := 0) (ms := 0) vm_X12_252 (av := [.int x1]) (st := []) rfl rfl ks_71 (by decide) rfl (Nat.le_of_ble_eq_true rfl) dX12_who_2 (cI_use (M := (yX12_bytesIs, cX12_bytesIs, 2, some .int)) h ?_)
  intro r1 I1 L1 h
  refine jr_iconst dX12_who_5 kic_m1 ?_
  refine jr_icmp_eq dX12_who_6 (tgt := 29) (by decide) (fun c => ?_) (fun c => ?_)
  · rw [if_pos c] at h
    refine jr_iconst dX12_who_29 kic_m1 ?_
    exact jr_ireturn dX12_who_30 ⟨Or.inr (Or.inl ⟨rfl, _, rfl⟩), _, _, rfl, h⟩
  · rw [if_neg c] at h
    refine jr_iload_n dX12_who_9 rfl rfl ?_
    refine jr_i2l dX12_who_10 ?_
    refine jr_callS (mc2 := 0) (mc := 0) (ms2 := 0) (ms := 0) vm_X12_255 (av := [.long (x2.toInt64)]) (st := []) rfl rfl (Nat.le_of_ble_eq_true rfl) dX12_who_11 (cI_use (M := (yX12_isWay, cX12_isWay, 2, some .boolean)) h ?_)
    intro r2 I2 L2 h
    refine jr_if_eq dX12_who_14 (tgt := 29) (by decide) (fun c => ?_) (fun c => ?_)
    · rw [if_pos c] at h
      refine jr_iconst dX12_who_29 kic_m1 ?_
      exact jr_ireturn dX12_who_30 ⟨Or.inr (Or.inl ⟨rfl, _, rfl⟩), _, _, rfl, h⟩
    · rw [if_neg c] at h
      refine jr_iload_n dX12_who_17 rfl rfl ?_
      refine jr_i2l dX12_who_18 ?_
      refine jr_lconst dX12_who_19 klc_0 ?_
      refine jr_ldc2 kl_X12_100 dX12_who_20 ?_
      refine jr_callS (mc2 := 0) (mc := 0) (ms2 := 0) (ms := 0) vm_X12_96 (av := [.long (x3.toInt64), .long (0 : Int64), .long (2 : Int64)]) (st := []) rfl rfl (Nat.le_of_ble_eq_true rfl) dX12_who_23 (cI_use (M := (yX12_within, cX12_within, 6, some .boolean)) h ?_)
      intro r3 I3 L3 h
      refine jr_if_ne dX12_who_26 (tgt := 31) (by decide) (fun c => ?_) (fun c => ?_)
      · rw [if_neg c] at h
        refine jr_aload_n dX12_who_31 rfl rfl ?_
        refine jr_iload_n dX12_who_32 rfl rfl ?_
        refine jr_callV (mc2 := 0) (mc := 0) (ms2 := 0) (ms := 0) vm_X12_252 (av := [.int x1]) (st := []) rfl rfl ks_71 (by decide) rfl (Nat.le_of_ble_eq_true rfl) dX12_who_33 (cI_use (M := (yX12_bytesIs, cX12_bytesIs, 2, some .int)) h ?_)
        intro r4 I4 L4 h
        refine jr_if_ge dX12_who_36 (tgt := 45) (by decide) (fun c => ?_) (fun c => ?_)
        · rw [if_pos c] at h
          refine jr_iconst dX12_who_45 kic_0 ?_
          refine jr_istore dX12_who_46 (by decide) rfl ?_
          refine jr_bipush dX12_who_48 kbp_m2 ?_
          refine jr_istore dX12_who_50 (by decide) rfl ?_
          refine jr_iconst dX12_who_52 kic_1 ?_
          refine jr_aload_n dX12_who_53 rfl rfl ?_
          refine jv_geti rfl ff_X12_93 ks_71 dX12_who_54 ?_
          refine jr_ishl dX12_who_57 ?_
          refine jr_iconst dX12_who_58 kic_1 ?_
          refine jr_isub dX12_who_59 ?_
          refine jr_istore dX12_who_60 (by decide) rfl ?_
          refine jr_iconst dX12_who_62 kic_0 ?_
          refine jr_istore dX12_who_63 (by decide) rfl ?_
          obtain ⟨e65, h⟩ := h
          exact J.sub (wX12_who_65_ok  e65 _ _ _ _ _ _ _ _ _ h) (jsub_some (jsub_some (jsub_some (jsub_some (jsub_some (jsub_some (jsub_some (jsub_some jsub_nil))))))))
        · rw [if_neg c] at h
          refine jr_aload_n dX12_who_39 rfl rfl ?_
          refine jr_iload_n dX12_who_40 rfl rfl ?_
          refine jr_callV (mc2 := 0) (mc := 0) (ms2 := 0) (ms := 0) vm_X12_252 (av := [.int x1]) (st := []) rfl rfl ks_71 (by decide) rfl (Nat.le_of_ble_eq_true rfl) dX12_who_41 (cI_use (M := (yX12_bytesIs, cX12_bytesIs, 2, some .int)) h ?_)
          intro r5 I5 L5 h
          exact jr_ireturn dX12_who_44 ⟨Or.inr (Or.inl ⟨rfl, _, rfl⟩), _, _, rfl, h⟩
      · rw [if_pos c] at h
        refine jr_iconst dX12_who_29 kic_m1 ?_
        exact jr_ireturn dX12_who_30 ⟨Or.inr (Or.inl ⟨rfl, _, rfl⟩), _, _, rfl, h⟩
def wX12_isSo_106 (G : jG) (l : Launch) (d : Nat) (Q : Option Value → jS → jL → Prop) (t0 : Int32) (t1 : Int32) (I : jS) (L : jL) : Prop := if t0 = t1 then (Q (some (.int (1 : Int32))) I L) else (Q (some (.int (0 : Int32))) I L)
set_option maxRecDepth 100000 in
set_option maxHeartbeats 4000000 in
theorem wX12_isSo_106_ok {G : jG} {l : Launch} {d : Nat} {Q : Option Value → jS → jL → Prop} : ∀ (t0 : Int32) (t1 : Int32) (I : jS) (L : jL), wX12_isSo_106 G l d Q t0 t1 I L → J G l yX12_isSo cX12_isSo 4 (d + 1) 0 0 106 [none, none, none, none] [.int t1, .int t0] (jKS, I, L, jR0) (jQm (some .boolean) Q) := by
  intro t0 t1 I L h
  rw [wX12_isSo_106] at h
  refine jr_icmp_ne dX12_isSo_106 (tgt := 113) (by decide) (fun c => ?_) (fun c => ?_)
  · rw [if_neg c] at h
    refine jr_iconst dX12_isSo_113 kic_0 ?_
    exact jr_ireturn dX12_isSo_114 ⟨Or.inr (Or.inr (Or.inr ⟨rfl, Or.inl rfl⟩)), _, _, rfl, h⟩
  · rw [if_pos c] at h
    refine jr_iconst dX12_isSo_109 kic_1 ?_
    refine jr_goto dX12_isSo_110 (tgt := 114) (by decide) ?_
    exact jr_ireturn dX12_isSo_114 ⟨Or.inr (Or.inr (Or.inr ⟨rfl, Or.inr rfl⟩)), _, _, rfl, h⟩
def wX12_isSo (G : jG) (l : Launch) (d : Nat) (x1 : Int32) (x2 : Int32) (I : jS) (L : jL) (Q : Option Value → jS → jL → Prop) : Prop := vp_in x1 6 ∧ (if (I 90 x1.toNatClampNeg) ≤ (((3 : Int32) * x2) + (2 : Int32)) then (Q (some (.int (0 : Int32))) I L) else (vp_in (((60 : Int32) * x1) + ((3 : Int32) * x2)) 360 ∧ (cI G l mX12_isGoer d [.ref 71, .long (L 91 ((((60 : Int32) * x1) + ((3 : Int32) * x2)).toNatClampNeg))] I L (fun r3 I3 L3 => (if r3 = 0 then (Q (some (.int (0 : Int32))) I3 L3) else (vp_in ((((60 : Int32) * x1) + ((3 : Int32) * x2)) + (1 : Int32)) 360 ∧ (cI G l mX12_isWay d [.long (L3 91 (((((60 : Int32) * x1) + ((3 : Int32) * x2)) + (1 : Int32)).toNatClampNeg))] I3 L3 (fun r5 I5 L5 => (if r5 = 0 then (Q (some (.int (0 : Int32))) I5 L5) else (vp_in ((((60 : Int32) * x1) + ((3 : Int32) * x2)) + (2 : Int32)) 360 ∧ (cI G l mX12_within d [.long (L5 91 (((((60 : Int32) * x1) + ((3 : Int32) * x2)) + (2 : Int32)).toNatClampNeg)), .long (0 : Int64), .long (1 : Int64)] I5 L5 (fun r7 I7 L7 => (if r7 = 0 then (Q (some (.int (0 : Int32))) I7 L7) else (cI G l mX12_crosses d [.ref 71, .int ((L7 91 ((((60 : Int32) * x1) + ((3 : Int32) * x2)).toNatClampNeg)).toInt32), .int ((L7 91 (((((60 : Int32) * x1) + ((3 : Int32) * x2)) + (1 : Int32)).toNatClampNeg)).toInt32)] I7 L7 (fun r8 I8 L8 => (if (lg_cmp (L8 91 (((((60 : Int32) * x1) + ((3 : Int32) * x2)) + (2 : Int32)).toNatClampNeg)) (1 : Int64)) = 0 then (wX12_isSo_106 G l d Q r8 (1 : Int32) I8 L8) else (wX12_isSo_106 G l d Q r8 (0 : Int32) I8 L8)))))))))))))))))
set_option maxRecDepth 100000 in
set_option maxHeartbeats 4000000 in
theorem wX12_isSo_ok {G : jG} {l : Launch} {d : Nat} {Q : Option Value → jS → jL → Prop} {x1 : Int32} {x2 : Int32} {I : jS} {L : jL} (h : wX12_isSo G l d x1 x2 I L Q) : cM G l mX12_isSo (d + 1) [.ref 71, .int x1, .int x2] I L Q := by
  rw [wX12_isSo] at h
  show jCall G l yX12_isSo cX12_isSo 4 (some .boolean) (d + 1) 0 0 _ (jKS, I, L, jR0) _
  refine jCall_of (n0 := 1) (ls := [some (.ref 71), some (.int x1), some (.int x2), none]) (by decide +kernel) rfl (Nat.le_of_ble_eq_true rfl) (jQm_of ?_)
  refine jr_bipush dX12_isSo_0 kbp_60 ?_
  refine jr_iload_n dX12_isSo_2 rfl rfl ?_
  refine jr_imul dX12_isSo_3 ?_
  refine jr_iconst dX12_isSo_4 kic_3 ?_
  refine jr_iload_n dX12_isSo_5 rfl rfl ?_
  refine jr_imul dX12_isSo_6 ?_
  refine jr_iadd dX12_isSo_7 ?_
  refine jr_istore_n dX12_isSo_8 rfl (by decide) rfl ?_
  refine jr_iconst dX12_isSo_9 kic_3 ?_
  refine jr_iload_n dX12_isSo_10 rfl rfl ?_
  refine jr_imul dX12_isSo_11 ?_
  refine jr_iconst dX12_isSo_12 kic_2 ?_
  refine jr_iadd dX12_isSo_13 ?_
  refine jr_aload_n dX12_isSo_14 rfl rfl ?_
  refine jr_geta ff_X12_71 ks_71 rr_71_50 dX12_isSo_15 ?_
  refine jr_iload_n dX12_isSo_18 rfl rfl ?_
  obtain ⟨g1, h⟩ := h
  refine jv_iaload rfl rfl ks_90 dX12_isSo_19 g1 ?_
  refine jr_icmp_ge dX12_isSo_20 (tgt := 66) (by decide) (fun c => ?_) (fun c => ?_)
  · rw [if_pos c] at h
    refine jr_iconst dX12_isSo_66 kic_0 ?_
    exact jr_ireturn dX12_isSo_67 ⟨Or.inr (Or.inr (Or.inr ⟨rfl, Or.inl rfl⟩)), _, _, rfl, h⟩
  · rw [if_neg c] at h
    refine jr_aload_n dX12_isSo_23 rfl rfl ?_
    refine jr_aload_n dX12_isSo_24 rfl rfl ?_
    refine jr_geta ff_X12_74 ks_71 rr_71_51 dX12_isSo_25 ?_
    refine jr_iload_n dX12_isSo_28 rfl rfl ?_
    obtain ⟨g2, h⟩ := h
    refine jv_laload rfl rfl ks_91 dX12_isSo_29 g2 ?_
    refine jr_callV (mc2 := 0) (mc := 0) (ms2 := 0) (ms := 0) vm_X12_125 (av := [.long (L 91 ((((60 : Int32) * x1) + ((3 : Int32) * x2)).toNatClampNeg))]) (st := []) rfl rfl ks_71 (by decide) rfl (Nat.le_of_ble_eq_true rfl) dX12_isSo_30 (cI_use (M := (yX12_isGoer, cX12_isGoer, 3, some .boolean)) h ?_)
    intro r3 I3 L3 h
    refine jr_if_eq dX12_isSo_33 (tgt := 66) (by decide) (fun c => ?_) (fun c => ?_)
    · rw [if_pos c] at h
      refine jr_iconst dX12_isSo_66 kic_0 ?_
      exact jr_ireturn dX12_isSo_67 ⟨Or.inr (Or.inr (Or.inr ⟨rfl, Or.inl rfl⟩)), _, _, rfl, h⟩
    · rw [if_neg c] at h
      refine jr_aload_n dX12_isSo_36 rfl rfl ?_
      refine jr_geta ff_X12_74 ks_71 rr_71_51 dX12_isSo_37 ?_
      refine jr_iload_n dX12_isSo_40 rfl rfl ?_
      refine jr_iconst dX12_isSo_41 kic_1 ?_
      refine jr_iadd dX12_isSo_42 ?_
      obtain ⟨g4, h⟩ := h
      refine jv_laload rfl rfl ks_91 dX12_isSo_43 g4 ?_
      refine jr_callS (mc2 := 0) (mc := 0) (ms2 := 0) (ms := 0) vm_X12_255 (av := [.long (L3 91 (((((60 : Int32) * x1) + ((3 : Int32) * x2)) + (1 : Int32)).toNatClampNeg))]) (st := []) rfl rfl (Nat.le_of_ble_eq_true rfl) dX12_isSo_44 (cI_use (M := (yX12_isWay, cX12_isWay, 2, some .boolean)) h ?_)
      intro r5 I5 L5 h
      refine jr_if_eq dX12_isSo_47 (tgt := 66) (by decide) (fun c => ?_) (fun c => ?_)
      · rw [if_pos c] at h
        refine jr_iconst dX12_isSo_66 kic_0 ?_
        exact jr_ireturn dX12_isSo_67 ⟨Or.inr (Or.inr (Or.inr ⟨rfl, Or.inl rfl⟩)), _, _, rfl, h⟩
      · rw [if_neg c] at h
        refine jr_aload_n dX12_isSo_50 rfl rfl ?_
        refine jr_geta ff_X12_74 ks_71 rr_71_51 dX12_isSo_51 ?_
        refine jr_iload_n dX12_isSo_54 rfl rfl ?_
        refine jr_iconst dX12_isSo_55 kic_2 ?_
        refine jr_iadd dX12_isSo_56 ?_
        obtain ⟨g6, h⟩ := h
        refine jv_laload rfl rfl ks_91 dX12_isSo_57 g6 ?_
        refine jr_lconst dX12_isSo_58 klc_0 ?_
        refine jr_lconst dX12_isSo_59 klc_1 ?_
        refine jr_callS (mc2 := 0) (mc := 0) (ms2 := 0) (ms := 0) vm_X12_96 (av := [.long (L5 91 (((((60 : Int32) * x1) + ((3 : Int32) * x2)) + (2 : Int32)).toNatClampNeg)), .long (0 : Int64), .long (1 : Int64)]) (st := []) rfl rfl (Nat.le_of_ble_eq_true rfl) dX12_isSo_60 (cI_use (M := (yX12_within, cX12_within, 6, some .boolean)) h ?_)
        intro r7 I7 L7 h
        refine jr_if_ne dX12_isSo_63 (tgt := 68) (by decide) (fun c => ?_) (fun c => ?_)
        · rw [if_neg c] at h
          refine jr_aload_n dX12_isSo_68 rfl rfl ?_
          refine jr_aload_n dX12_isSo_69 rfl rfl ?_
          refine jr_geta ff_X12_74 ks_71 rr_71_51 dX12_isSo_70 ?_
          refine jr_iload_n dX12_isSo_73 rfl rfl ?_
          refine jv_laload rfl rfl ks_91 dX12_isSo_74 g2 ?_
          refine jr_l2i dX12_isSo_75 ?_
          refine jr_aload_n dX12_isSo_76 rfl rfl ?_
          refine jr_geta ff_X12_74 ks_71 rr_71_51 dX12_isSo_77 ?_
          refine jr_iload_n dX12_isSo_80 rfl rfl ?_
          refine jr_iconst dX12_isSo_81 kic_1 ?_
          refine jr_iadd dX12_isSo_82 ?_
          refine jv_laload rfl rfl ks_91 dX12_isSo_83 g4 ?_
          refine jr_l2i dX12_isSo_84 ?_
          refine jr_callV (mc2 := 0) (mc := 0) (ms2 := 0) (ms := 0) vm_X12_249 (av := [.int ((L7 91 ((((60 : Int32) * x1) + ((3 : Int32) * x2)).toNatClampNeg)).toInt32), .int ((L7 91 (((((60 : Int32) * x1) + ((3 : Int32) * x2)) + (1 : Int32)).toNatClampNeg)).toInt32)]) (st := []) rfl rfl ks_71 (by decide) rfl (Nat.le_of_ble_eq_true rfl) dX12_isSo_85 (cI_use (M := (yX12_crosses, cX12_crosses, 3, some .boolean)) h ?_)
          intro r8 I8 L8 h
          refine jr_aload_n dX12_isSo_88 rfl rfl ?_
          refine jr_geta ff_X12_74 ks_71 rr_71_51 dX12_isSo_89 ?_
          refine jr_iload_n dX12_isSo_92 rfl rfl ?_
          refine jr_iconst dX12_isSo_93 kic_2 ?_
          refine jr_iadd dX12_isSo_94 ?_
          refine jv_laload rfl rfl ks_91 dX12_isSo_95 g6 ?_
          refine jr_lconst dX12_isSo_96 klc_1 ?_
          refine jr_lcmp dX12_isSo_97 ?_
          refine jr_if_ne dX12_isSo_98 (tgt := 105) (by decide) (fun c => ?_) (fun c => ?_)
          · rw [if_neg c] at h
            refine jr_iconst dX12_isSo_105 kic_0 ?_
            exact J.sub (wX12_isSo_106_ok  _ _ _ _ h) (jsub_none (jsub_none (jsub_none (jsub_none jsub_nil))))
          · rw [if_pos c] at h
            refine jr_iconst dX12_isSo_101 kic_1 ?_
            refine jr_goto dX12_isSo_102 (tgt := 106) (by decide) ?_
            exact J.sub (wX12_isSo_106_ok  _ _ _ _ h) (jsub_none (jsub_none (jsub_none (jsub_none jsub_nil))))
        · rw [if_pos c] at h
          refine jr_iconst dX12_isSo_66 kic_0 ?_
          exact jr_ireturn dX12_isSo_67 ⟨Or.inr (Or.inr (Or.inr ⟨rfl, Or.inl rfl⟩)), _, _, rfl, h⟩
def wX12_judge_20 (G : jG) (l : Launch) (d : Nat) (Q : Option Value → jS → jL → Prop) : Nat → Int32 → Int32 → jS → jL → Prop
  | 0, _, _, _, _ => False
  | n20 + 1, x1, x2, I, L => vp_in x1 6 ∧ (if (I 90 x1.toNatClampNeg) ≤ ((3 : Int32) * x2) then (Q (some (.int (-2 : Int32))) I L) else (cI G l mX12_isSo d [.ref 71, .int x1, .int x2] I L (fun r2 I2 L2 => (if r2 = 0 then (Q (some (.int x2)) I2 L2) else ((wX12_judge_20 G l d Q n20) x1 (x2 + (1 : Int32)) I2 L2)))))
set_option maxRecDepth 100000 in
set_option maxHeartbeats 4000000 in
theorem wX12_judge_20_ok {G : jG} {l : Launch} {d : Nat} {Q : Option Value → jS → jL → Prop} : ∀ (n : Nat) (x1 : Int32) (x2 : Int32) (I : jS) (L : jL), wX12_judge_20 G l d Q n x1 x2 I L → J G l yX12_judge cX12_judge 3 (d + 1) 0 0 20 [some (.ref 71), some (.int x1), some (.int x2)] [] (jKS, I, L, jR0) (jQm (some .int) Q) := by
  intro n
  induction n with
  | zero => intro x1 x2 I L h; exact h.elim
  | succ n ih =>
    intro x1 x2 I L h
    rw [wX12_judge_20] at h
    refine jr_iconst dX12_judge_20 kic_3 ?_
    refine jr_iload_n dX12_judge_21 rfl rfl ?_
    refine jr_imul dX12_judge_22 ?_
    refine jr_aload_n dX12_judge_23 rfl rfl ?_
    refine jr_geta ff_X12_71 ks_71 rr_71_50 dX12_judge_24 ?_
    refine jr_iload_n dX12_judge_27 rfl rfl ?_
    obtain ⟨g1, h⟩ := h
    refine jv_iaload rfl rfl ks_90 dX12_judge_28 g1 ?_
    refine jr_icmp_ge dX12_judge_29 (tgt := 49) (by decide) (fun c => ?_) (fun c => ?_)
    · rw [if_pos c] at h
      refine jr_bipush dX12_judge_49 kbp_m2 ?_
      exact jr_ireturn dX12_judge_51 ⟨Or.inr (Or.inl ⟨rfl, _, rfl⟩), _, _, rfl, h⟩
    · rw [if_neg c] at h
      refine jr_aload_n dX12_judge_32 rfl rfl ?_
      refine jr_iload_n dX12_judge_33 rfl rfl ?_
      refine jr_iload_n dX12_judge_34 rfl rfl ?_
      refine jr_callV (mc2 := 0) (mc := 0) (ms2 := 0) (ms := 0) vm_X12_340 (av := [.int x1, .int x2]) (st := []) rfl rfl ks_71 (by decide) rfl (Nat.le_of_ble_eq_true rfl) dX12_judge_35 (cI_use (M := (yX12_isSo, cX12_isSo, 4, some .boolean)) h ?_)
      intro r2 I2 L2 h
      refine jr_if_ne dX12_judge_38 (tgt := 43) (by decide) (fun c => ?_) (fun c => ?_)
      · rw [if_neg c] at h
        refine jr_iinc dX12_judge_43 rfl (by rw [kic_1]) (by decide) rfl ?_
        refine jr_goto dX12_judge_46 (tgt := 20) (by decide) ?_
        exact J.sub (ih _ _ _ _ h) (jsub_some (jsub_some (jsub_some jsub_nil)))
      · rw [if_pos c] at h
        refine jr_iload_n dX12_judge_41 rfl rfl ?_
        exact jr_ireturn dX12_judge_42 ⟨Or.inr (Or.inl ⟨rfl, _, rfl⟩), _, _, rfl, h⟩
def wX12_judge (G : jG) (l : Launch) (d : Nat) (x1 : Int32) (I : jS) (L : jL) (Q : Option Value → jS → jL → Prop) : Prop := cI G l mX12_bytesIs d [.ref 71, .int x1] I L (fun r1 I1 L1 => (if 0 ≤ r1 then (cV G l mX12_begins1 d [.ref 71] I1 L1 (fun I2 L2 => (∃ e20 : Nat, wX12_judge_20 G l d Q e20 x1 (0 : Int32) I2 L2))) else (cI G l mX12_bytesIs d [.ref 71, .int x1] I1 L1 (fun r3 I3 L3 => (Q (some (.int r3)) I3 L3)))))
set_option maxRecDepth 100000 in
set_option maxHeartbeats 4000000 in
theorem wX12_judge_ok {G : jG} {l : Launch} {d : Nat} {Q : Option Value → jS → jL → Prop} {x1 : Int32} {I : jS} {L : jL} (h : wX12_judge G l d x1 I L Q) : cM G l mX12_judge (d + 1) [.ref 71, .int x1] I L Q := by
  rw [wX12_judge] at h
  show jCall G l yX12_judge cX12_judge 3 (some .int) (d + 1) 0 0 _ (jKS, I, L, jR0) _
  refine jCall_of (n0 := 1) (ls := [some (.ref 71), some (.int x1), none]) (by decide +kernel) rfl (Nat.le_of_ble_eq_true rfl) (jQm_of ?_)
  refine jr_aload_n dX12_judge_0 rfl rfl ?_
  refine jr_iload_n dX12_judge_1 rfl rfl ?_
  refine jr_callV (mc2 := 0) (mc := 0) (ms2 := 0) (ms := 0) vm_X12_252 (av := [.int x1]) (st := []) rfl rfl ks_71 (by decide) rfl (Nat.le_of_ble_eq_true rfl) dX12_judge_2 (cI_use (M := (yX12_bytesIs, cX12_bytesIs, 2, some .int)) h ?_)
  intro r1 I1 L1 h
  refine jr_if_ge dX12_judge_5 (tgt := 14) (by decide) (fun c => ?_) (fun c => ?_)
  · rw [if_pos c] at h
    refine jr_aload_n dX12_judge_14 rfl rfl ?_
    refine jr_callV (mc2 := 0) (mc := 0) (ms2 := 0) (ms := 0) vm_X12_146 (av := []) (st := []) rfl rfl ks_71 (by decide) rfl (Nat.le_of_ble_eq_true rfl) dX12_judge_15 (cV_use (M := (yX12_begins1, cX12_begins1, 2, none)) h ?_)
    intro I2 L2 h
    refine jr_iconst dX12_judge_18 kic_0 ?_
    refine jr_istore_n dX12_judge_19 rfl (by decide) rfl ?_
    obtain ⟨e20, h⟩ := h
    exact J.sub (wX12_judge_20_ok  e20 _ _ _ _ h) (jsub_some (jsub_some (jsub_some jsub_nil)))
  · rw [if_neg c] at h
    refine jr_aload_n dX12_judge_8 rfl rfl ?_
    refine jr_iload_n dX12_judge_9 rfl rfl ?_
    refine jr_callV (mc2 := 0) (mc := 0) (ms2 := 0) (ms := 0) vm_X12_252 (av := [.int x1]) (st := []) rfl rfl ks_71 (by decide) rfl (Nat.le_of_ble_eq_true rfl) dX12_judge_10 (cI_use (M := (yX12_bytesIs, cX12_bytesIs, 2, some .int)) h ?_)
    intro r3 I3 L3 h
    exact jr_ireturn dX12_judge_13 ⟨Or.inr (Or.inl ⟨rfl, _, rfl⟩), _, _, rfl, h⟩
def wX12_drawn_162 (G : jG) (l : Launch) (d : Nat) (k60 : Int32 → Int32 → Int32 → Int32 → Int32 → Int32 → Int32 → jS → jL → Prop) (Q : Option Value → jS → jL → Prop) : Nat → Int32 → Int32 → Int32 → Int32 → Int32 → Int32 → Int32 → Int32 → Int32 → jS → jL → Prop
  | 0, _, _, _, _, _, _, _, _, _, _, _ => False
  | n162 + 1, x2, x3, x4, x5, x6, x7, x8, x9, x10, I, L => if (I 71 6) ≤ x10 then (if x9 = (I 71 6) then (k60 x2 x3 x4 x5 (x6 + x9) (x7 + (1 : Int32)) (x8 + (1 : Int32)) I L) else (k60 x2 x3 x4 x5 (x6 + x9) (x7 + (0 : Int32)) (x8 + (1 : Int32)) I L)) else (cI G l mX12_crosses d [.ref 71, .int x10, .int x4] I L (fun r1 I1 L1 => (if r1 = 0 then ((wX12_drawn_162 G l d k60 Q n162) x2 x3 x4 x5 x6 x7 x8 (x9 + (0 : Int32)) (x10 + (1 : Int32)) I1 L1) else ((wX12_drawn_162 G l d k60 Q n162) x2 x3 x4 x5 x6 x7 x8 (x9 + (1 : Int32)) (x10 + (1 : Int32)) I1 L1))))
set_option maxRecDepth 100000 in
set_option maxHeartbeats 4000000 in
theorem wX12_drawn_162_ok {G : jG} {l : Launch} {d : Nat} {Q : Option Value → jS → jL → Prop} {k60 : Int32 → Int32 → Int32 → Int32 → Int32 → Int32 → Int32 → jS → jL → Prop} (hk60 : ∀ (x2 : Int32) (x3 : Int32) (x4 : Int32) (x5 : Int32) (x6 : Int32) (x7 : Int32) (x8 : Int32) (I : jS) (L : jL), k60 x2 x3 x4 x5 x6 x7 x8 I L → J G l yX12_drawn cX12_drawn 11 (d + 1) 0 0 60 [some (.ref 71), none, some (.int x2), some (.int x3), some (.int x4), some (.int x5), some (.int x6), some (.int x7), some (.int x8), none, none] [] (jKS, I, L, jR0) (jQm (some .int) Q)) : ∀ (n : Nat) (x2 : Int32) (x3 : Int32) (x4 : Int32) (x5 : Int32) (x6 : Int32) (x7 : Int32) (x8 : Int32) (x9 : Int32) (x10 : Int32) (I : jS) (L : jL), wX12_drawn_162 G l d k60 Q n x2 x3 x4 x5 x6 x7 x8 x9 x10 I L → J G l yX12_drawn cX12_drawn 11 (d + 1) 0 0 162 [some (.ref 71), none, some (.int x2), some (.int x3), some (.int x4), some (.int x5), some (.int x6), some (.int x7), some (.int x8), some (.int x9), some (.int x10)] [] (jKS, I, L, jR0) (jQm (some .int) Q) := by
  intro n
  induction n with
  | zero => intro x2 x3 x4 x5 x6 x7 x8 x9 x10 I L h; exact h.elim
  | succ n ih =>
    intro x2 x3 x4 x5 x6 x7 x8 x9 x10 I L h
    rw [wX12_drawn_162] at h
    refine jr_iload dX12_drawn_162 rfl ?_
    refine jr_aload_n dX12_drawn_164 rfl rfl ?_
    refine jv_geti rfl ff_X12_93 ks_71 dX12_drawn_165 ?_
    refine jr_icmp_ge dX12_drawn_168 (tgt := 198) (by decide) (fun c => ?_) (fun c => ?_)
    · rw [if_pos c] at h
      refine jr_iload dX12_drawn_198 rfl ?_
      refine jr_iload dX12_drawn_200 rfl ?_
      refine jr_iadd dX12_drawn_202 ?_
      refine jr_istore dX12_drawn_203 (by decide) rfl ?_
      refine jr_iload dX12_drawn_205 rfl ?_
      refine jr_iload dX12_drawn_207 rfl ?_
      refine jr_aload_n dX12_drawn_209 rfl rfl ?_
      refine jv_geti rfl ff_X12_93 ks_71 dX12_drawn_210 ?_
      refine jr_icmp_ne dX12_drawn_213 (tgt := 220) (by decide) (fun c => ?_) (fun c => ?_)
      · rw [if_neg c] at h
        refine jr_iconst dX12_drawn_220 kic_0 ?_
        refine jr_iadd dX12_drawn_221 ?_
        refine jr_istore dX12_drawn_222 (by decide) rfl ?_
        refine jr_iinc dX12_drawn_224 rfl (by rw [kic_1]) (by decide) rfl ?_
        refine jr_goto dX12_drawn_227 (tgt := 60) (by decide) ?_
        exact J.sub (hk60 _ _ _ _ _ _ _ _ _ h) (jsub_some (jsub_none (jsub_some (jsub_some (jsub_some (jsub_some (jsub_some (jsub_some (jsub_some (jsub_none (jsub_none jsub_nil)))))))))))
      · rw [if_pos c] at h
        refine jr_iconst dX12_drawn_216 kic_1 ?_
        refine jr_goto dX12_drawn_217 (tgt := 221) (by decide) ?_
        refine jr_iadd dX12_drawn_221 ?_
        refine jr_istore dX12_drawn_222 (by decide) rfl ?_
        refine jr_iinc dX12_drawn_224 rfl (by rw [kic_1]) (by decide) rfl ?_
        refine jr_goto dX12_drawn_227 (tgt := 60) (by decide) ?_
        exact J.sub (hk60 _ _ _ _ _ _ _ _ _ h) (jsub_some (jsub_none (jsub_some (jsub_some (jsub_some (jsub_some (jsub_some (jsub_some (jsub_some (jsub_none (jsub_none jsub_nil)))))))))))
    · rw [if_neg c] at h
      refine jr_iload dX12_drawn_171 rfl ?_
      refine jr_aload_n dX12_drawn_173 rfl rfl ?_
      refine jr_iload dX12_drawn_174 rfl ?_
      refine jr_iload dX12_drawn_176 rfl ?_
      refine jr_callV (mc2 := 0) (mc := 0) (ms2 := 0) (ms := 0) vm_X12_249 (av := [.int x10, .int x4]) (st := [.int x9]) rfl rfl ks_71 (by decide) rfl (Nat.le_of_ble_eq_true rfl) dX12_drawn_178 (cI_use (M := (yX12_crosses, cX12_crosses, 3, some .boolean)) h ?_)
      intro r1 I1 L1 h
      refine jr_if_eq dX12_drawn_181 (tgt := 188) (by decide) (fun c => ?_) (fun c => ?_)
      · rw [if_pos c] at h
        refine jr_iconst dX12_drawn_188 kic_0 ?_
        refine jr_iadd dX12_drawn_189 ?_
        refine jr_istore dX12_drawn_190 (by decide) rfl ?_
        refine jr_iinc dX12_drawn_192 rfl (by rw [kic_1]) (by decide) rfl ?_
        refine jr_goto dX12_drawn_195 (tgt := 162) (by decide) ?_
        exact J.sub (ih _ _ _ _ _ _ _ _ _ _ _ h) (jsub_some (jsub_none (jsub_some (jsub_some (jsub_some (jsub_some (jsub_some (jsub_some (jsub_some (jsub_some (jsub_some jsub_nil)))))))))))
      · rw [if_neg c] at h
        refine jr_iconst dX12_drawn_184 kic_1 ?_
        refine jr_goto dX12_drawn_185 (tgt := 189) (by decide) ?_
        refine jr_iadd dX12_drawn_189 ?_
        refine jr_istore dX12_drawn_190 (by decide) rfl ?_
        refine jr_iinc dX12_drawn_192 rfl (by rw [kic_1]) (by decide) rfl ?_
        refine jr_goto dX12_drawn_195 (tgt := 162) (by decide) ?_
        exact J.sub (ih _ _ _ _ _ _ _ _ _ _ _ h) (jsub_some (jsub_none (jsub_some (jsub_some (jsub_some (jsub_some (jsub_some (jsub_some (jsub_some (jsub_some (jsub_some jsub_nil)))))))))))
def wX12_drawn_83 (G : jG) (l : Launch) (d : Nat) (k60 : Int32 → Int32 → Int32 → Int32 → Int32 → Int32 → Int32 → jS → jL → Prop) (Q : Option Value → jS → jL → Prop) : Nat → Int32 → Int32 → Int32 → Int32 → Int32 → Int32 → Int32 → Int32 → jS → jL → Prop
  | 0, _, _, _, _, _, _, _, _, _, _ => False
  | n83 + 1, x2, x3, x4, x5, x6, x7, x8, x9, I, L => if (8 : Int32) ≤ x9 then (cV G l mX12_begins1 d [.ref 71] I L (fun I1 L1 => (∃ e162 : Nat, wX12_drawn_162 G l d k60 Q e162 x2 x3 x4 x5 x6 x7 x8 (0 : Int32) (0 : Int32) I1 L1))) else (vp_in (((48 : Int32) + ((8 : Int32) * x4)) + x9) 125 ∧ (if (I 72 ((((48 : Int32) + ((8 : Int32) * x4)) + x9).toNatClampNeg)) ≤ ((jushr ((x5 * (1103515245 : Int32)) + (12345 : Int32)) (8 : Int32)) - (jushr ((x5 * (1103515245 : Int32)) + (12345 : Int32)) (8 : Int32)) / (12 : Int32) * (12 : Int32)) then ((wX12_drawn_83 G l d k60 Q n83) x2 x3 x4 ((x5 * (1103515245 : Int32)) + (12345 : Int32)) x6 x7 x8 (x9 + (1 : Int32)) (u2 I 71 21 ((I 71 21) ||| (0 : Int32))) L) else ((wX12_drawn_83 G l d k60 Q n83) x2 x3 x4 ((x5 * (1103515245 : Int32)) + (12345 : Int32)) x6 x7 x8 (x9 + (1 : Int32)) (u2 I 71 21 ((I 71 21) ||| ((1 : Int32) <<< (x9 &&& 31)))) L)))
set_option maxRecDepth 100000 in
set_option maxHeartbeats 4000000 in
theorem wX12_drawn_83_ok {G : jG} {l : Launch} {d : Nat} {Q : Option Value → jS → jL → Prop} {k60 : Int32 → Int32 → Int32 → Int32 → Int32 → Int32 → Int32 → jS → jL → Prop} (hk60 : ∀ (x2 : Int32) (x3 : Int32) (x4 : Int32) (x5 : Int32) (x6 : Int32) (x7 : Int32) (x8 : Int32) (I : jS) (L : jL), k60 x2 x3 x4 x5 x6 x7 x8 I L → J G l yX12_drawn cX12_drawn 11 (d + 1) 0 0 60 [some (.ref 71), none, some (.int x2), some (.int x3), some (.int x4), some (.int x5), some (.int x6), some (.int x7), some (.int x8), none, none] [] (jKS, I, L, jR0) (jQm (some .int) Q)) : ∀ (n : Nat) (x2 : Int32) (x3 : Int32) (x4 : Int32) (x5 : Int32) (x6 : Int32) (x7 : Int32) (x8 : Int32) (x9 : Int32) (I : jS) (L : jL), wX12_drawn_83 G l d k60 Q n x2 x3 x4 x5 x6 x7 x8 x9 I L → J G l yX12_drawn cX12_drawn 11 (d + 1) 0 0 83 [some (.ref 71), none, some (.int x2), some (.int x3), some (.int x4), some (.int x5), some (.int x6), some (.int x7), some (.int x8), some (.int x9), none] [] (jKS, I, L, jR0) (jQm (some .int) Q) := by
  intro n
  induction n with
  | zero => intro x2 x3 x4 x5 x6 x7 x8 x9 I L h; exact h.elim
  | succ n ih =>
    intro x2 x3 x4 x5 x6 x7 x8 x9 I L h
    rw [wX12_drawn_83] at h
    refine jr_iload dX12_drawn_83 rfl ?_
    refine jr_bipush dX12_drawn_85 kbp_8 ?_
    refine jr_icmp_ge dX12_drawn_87 (tgt := 152) (by decide) (fun c => ?_) (fun c => ?_)
    · rw [if_pos c] at h
      refine jr_aload_n dX12_drawn_152 rfl rfl ?_
      refine jr_callV (mc2 := 0) (mc := 0) (ms2 := 0) (ms := 0) vm_X12_146 (av := []) (st := []) rfl rfl ks_71 (by decide) rfl (Nat.le_of_ble_eq_true rfl) dX12_drawn_153 (cV_use (M := (yX12_begins1, cX12_begins1, 2, none)) h ?_)
      intro I1 L1 h
      refine jr_iconst dX12_drawn_156 kic_0 ?_
      refine jr_istore dX12_drawn_157 (by decide) rfl ?_
      refine jr_iconst dX12_drawn_159 kic_0 ?_
      refine jr_istore dX12_drawn_160 (by decide) rfl ?_
      obtain ⟨e162, h⟩ := h
      exact J.sub (wX12_drawn_162_ok  hk60 e162 _ _ _ _ _ _ _ _ _ _ _ h) (jsub_some (jsub_none (jsub_some (jsub_some (jsub_some (jsub_some (jsub_some (jsub_some (jsub_some (jsub_some (jsub_some jsub_nil)))))))))))
    · rw [if_neg c] at h
      refine jr_iload dX12_drawn_90 rfl ?_
      refine jr_ldcw ki_X12_345 dX12_drawn_92 ?_
      refine jr_imul dX12_drawn_95 ?_
      refine jr_sipush dX12_drawn_96 ksp_12345 ?_
      refine jr_iadd dX12_drawn_99 ?_
      refine jr_istore dX12_drawn_100 (by decide) rfl ?_
      refine jr_aload_n dX12_drawn_102 rfl rfl ?_
      refine jr_dup dX12_drawn_103 rfl ?_
      refine jv_geti rfl ff_X12_216 ks_71 dX12_drawn_104 ?_
      refine jr_iload dX12_drawn_107 rfl ?_
      refine jr_bipush dX12_drawn_109 kbp_8 ?_
      refine jr_iushr (v := (jushr ((x5 * (1103515245 : Int32)) + (12345 : Int32)) (8 : Int32))) dX12_drawn_111 rfl ?_
      refine jr_bipush dX12_drawn_112 kbp_12 ?_
      refine jr_irem dX12_drawn_114 (by decide) ?_
      refine jr_aload_n dX12_drawn_115 rfl rfl ?_
      refine jr_geta ff_X12_11 ks_71 rr_71_0 dX12_drawn_116 ?_
      refine jr_bipush dX12_drawn_119 kbp_48 ?_
      refine jr_bipush dX12_drawn_121 kbp_8 ?_
      refine jr_iload dX12_drawn_123 rfl ?_
      refine jr_imul dX12_drawn_125 ?_
      refine jr_iadd dX12_drawn_126 ?_
      refine jr_iload dX12_drawn_127 rfl ?_
      refine jr_iadd dX12_drawn_129 ?_
      obtain ⟨g2, h⟩ := h
      refine jv_iaload rfl rfl ks_72 dX12_drawn_130 g2 ?_
      refine jr_icmp_ge dX12_drawn_131 (tgt := 141) (by decide) (fun c => ?_) (fun c => ?_)
      · rw [if_pos c] at h
        refine jr_iconst dX12_drawn_141 kic_0 ?_
        refine jr_ior dX12_drawn_142 ?_
        refine jr_puti ff_X12_216 ks_71 dX12_drawn_143 ?_
        refine jr_iinc dX12_drawn_146 rfl (by rw [kic_1]) (by decide) rfl ?_
        refine jr_goto dX12_drawn_149 (tgt := 83) (by decide) ?_
        exact J.sub (ih _ _ _ _ _ _ _ _ _ _ h) (jsub_some (jsub_none (jsub_some (jsub_some (jsub_some (jsub_some (jsub_some (jsub_some (jsub_some (jsub_some (jsub_none jsub_nil)))))))))))
      · rw [if_neg c] at h
        refine jr_iconst dX12_drawn_134 kic_1 ?_
        refine jr_iload dX12_drawn_135 rfl ?_
        refine jr_ishl dX12_drawn_137 ?_
        refine jr_goto dX12_drawn_138 (tgt := 142) (by decide) ?_
        refine jr_ior dX12_drawn_142 ?_
        refine jr_puti ff_X12_216 ks_71 dX12_drawn_143 ?_
        refine jr_iinc dX12_drawn_146 rfl (by rw [kic_1]) (by decide) rfl ?_
        refine jr_goto dX12_drawn_149 (tgt := 83) (by decide) ?_
        exact J.sub (ih _ _ _ _ _ _ _ _ _ _ h) (jsub_some (jsub_none (jsub_some (jsub_some (jsub_some (jsub_some (jsub_some (jsub_some (jsub_some (jsub_some (jsub_none jsub_nil)))))))))))
def wX12_drawn_60 (G : jG) (l : Launch) (d : Nat) (Q : Option Value → jS → jL → Prop) : Nat → Int32 → Int32 → Int32 → Int32 → Int32 → Int32 → Int32 → jS → jL → Prop
  | 0, _, _, _, _, _, _, _, _, _ => False
  | n60 + 1, x2, x3, x4, x5, x6, x7, x8, I, L => if (x2 / (10 : Int32)) ≤ x8 then (if x3 = 0 then (Q (some (.int x6)) (u2 I 71 21 (0 : Int32)) L) else (Q (some (.int x7)) (u2 I 71 21 (0 : Int32)) L)) else (∃ e83 : Nat, wX12_drawn_83 G l d (fun z0 z1 z2 z3 z4 z5 z6 I L => wX12_drawn_60 G l d Q n60 z0 z1 z2 z3 z4 z5 z6 I L) Q e83 x2 x3 x4 x5 x6 x7 x8 (0 : Int32) (u2 (u2 I 71 21 (0 : Int32)) 71 22 x4) L)
set_option maxRecDepth 100000 in
set_option maxHeartbeats 4000000 in
theorem wX12_drawn_60_ok {G : jG} {l : Launch} {d : Nat} {Q : Option Value → jS → jL → Prop} : ∀ (n : Nat) (x2 : Int32) (x3 : Int32) (x4 : Int32) (x5 : Int32) (x6 : Int32) (x7 : Int32) (x8 : Int32) (I : jS) (L : jL), wX12_drawn_60 G l d Q n x2 x3 x4 x5 x6 x7 x8 I L → J G l yX12_drawn cX12_drawn 11 (d + 1) 0 0 60 [some (.ref 71), none, some (.int x2), some (.int x3), some (.int x4), some (.int x5), some (.int x6), some (.int x7), some (.int x8), none, none] [] (jKS, I, L, jR0) (jQm (some .int) Q) := by
  intro n
  induction n with
  | zero => intro x2 x3 x4 x5 x6 x7 x8 I L h; exact h.elim
  | succ n ih =>
    intro x2 x3 x4 x5 x6 x7 x8 I L h
    rw [wX12_drawn_60] at h
    refine jr_iload dX12_drawn_60 rfl ?_
    refine jr_iload_n dX12_drawn_62 rfl rfl ?_
    refine jr_bipush dX12_drawn_63 kbp_10 ?_
    refine jr_idiv dX12_drawn_65 (by decide) ?_
    refine jr_icmp_ge dX12_drawn_66 (tgt := 230) (by decide) (fun c => ?_) (fun c => ?_)
    · rw [if_pos c] at h
      refine jr_aload_n dX12_drawn_230 rfl rfl ?_
      refine jr_iconst dX12_drawn_231 kic_0 ?_
      refine jr_puti ff_X12_216 ks_71 dX12_drawn_232 ?_
      refine jr_iload_n dX12_drawn_235 rfl rfl ?_
      refine jr_if_ne dX12_drawn_236 (tgt := 244) (by decide) (fun c => ?_) (fun c => ?_)
      · rw [if_neg c] at h
        refine jr_iload dX12_drawn_244 rfl ?_
        exact jr_ireturn dX12_drawn_246 ⟨Or.inr (Or.inl ⟨rfl, _, rfl⟩), _, _, rfl, h⟩
      · rw [if_pos c] at h
        refine jr_iload dX12_drawn_239 rfl ?_
        refine jr_goto dX12_drawn_241 (tgt := 246) (by decide) ?_
        exact jr_ireturn dX12_drawn_246 ⟨Or.inr (Or.inl ⟨rfl, _, rfl⟩), _, _, rfl, h⟩
    · rw [if_neg c] at h
      refine jr_aload_n dX12_drawn_69 rfl rfl ?_
      refine jr_iconst dX12_drawn_70 kic_0 ?_
      refine jr_puti ff_X12_216 ks_71 dX12_drawn_71 ?_
      refine jr_aload_n dX12_drawn_74 rfl rfl ?_
      refine jr_iload dX12_drawn_75 rfl ?_
      refine jr_puti ff_X12_213 ks_71 dX12_drawn_77 ?_
      refine jr_iconst dX12_drawn_80 kic_0 ?_
      refine jr_istore dX12_drawn_81 (by decide) rfl ?_
      obtain ⟨e83, h⟩ := h
      exact J.sub (wX12_drawn_83_ok  ih e83 _ _ _ _ _ _ _ _ _ _ h) (jsub_some (jsub_none (jsub_some (jsub_some (jsub_some (jsub_some (jsub_some (jsub_some (jsub_some (jsub_some (jsub_none jsub_nil)))))))))))
def wX12_drawn (G : jG) (l : Launch) (d : Nat) (x1 : Int32) (x2 : Int32) (x3 : Int32) (I : jS) (L : jL) (Q : Option Value → jS → jL → Prop) : Prop := if x2 < 0 then (Q (some (.int (-1 : Int32))) I L) else (cI G l mX12_within d [.long ((x2 / (10 : Int32)).toInt64), .long (1 : Int64), .long (20 : Int64)] I L (fun r1 I1 L1 => (if r1 = 0 then (Q (some (.int (-1 : Int32))) I1 L1) else (cI G l mX12_isWay d [.long ((x2 - x2 / (10 : Int32) * (10 : Int32)).toInt64)] I1 L1 (fun r2 I2 L2 => (if r2 = 0 then (Q (some (.int (-1 : Int32))) I2 L2) else (cI G l mX12_within d [.long (x3.toInt64), .long (0 : Int64), .long (1 : Int64)] I2 L2 (fun r3 I3 L3 => (if r3 = 0 then (Q (some (.int (-1 : Int32))) I3 L3) else (∃ e60 : Nat, wX12_drawn_60 G l d Q e60 x2 x3 (x2 - x2 / (10 : Int32) * (10 : Int32)) x1 (0 : Int32) (0 : Int32) (0 : Int32) I3 L3))))))))))
set_option maxRecDepth 100000 in
set_option maxHeartbeats 4000000 in
theorem wX12_drawn_ok {G : jG} {l : Launch} {d : Nat} {Q : Option Value → jS → jL → Prop} {x1 : Int32} {x2 : Int32} {x3 : Int32} {I : jS} {L : jL} (h : wX12_drawn G l d x1 x2 x3 I L Q) : cM G l mX12_drawn (d + 1) [.ref 71, .int x1, .int x2, .int x3] I L Q := by
  rw [wX12_drawn] at h
  show jCall G l yX12_drawn cX12_drawn 11 (some .int) (d + 1) 0 0 _ (jKS, I, L, jR0) _
  refine jCall_of (n0 := 7) (ls := [some (.ref 71), some (.int x1), some (.int x2), some (.int x3), none, none, none, none, none, none, none]) (by decide +kernel) rfl (Nat.le_of_ble_eq_true rfl) (jQm_of ?_)
  refine jr_iload_n dX12_drawn_0 rfl rfl ?_
  refine jr_if_lt dX12_drawn_1 (tgt := 40) (by decide) (fun c => ?_) (fun c => ?_)
  · rw [if_pos c] at h
    refine jr_iconst dX12_drawn_40 kic_m1 ?_
    exact jr_ireturn dX12_drawn_41 ⟨Or.inr (Or.inl ⟨rfl, _, rfl⟩), _, _, rfl, h⟩
  · rw [if_neg c] at h
    refine jr_iload_n dX12_drawn_4 rfl rfl ?_
    refine jr_bipush dX12_drawn_5 kbp_10 ?_
    refine jr_idiv dX12_drawn_7 (by decide) ?_
    refine jr_i2l dX12_drawn_8 ?_
    refine jr_lconst dX12_drawn_9 klc_1 ?_
    refine jr_ldc2 kl_X12_343 dX12_drawn_10 ?_
    refine jr_callS (mc2 := 0) (mc := 0) (ms2 := 0) (ms := 0) vm_X12_96 (av := [.long ((x2 / (10 : Int32)).toInt64), .long (1 : Int64), .long (20 : Int64)]) (st := []) rfl rfl (Nat.le_of_ble_eq_true rfl) dX12_drawn_13 (cI_use (M := (yX12_within, cX12_within, 6, some .boolean)) h ?_)
    intro r1 I1 L1 h
    refine jr_if_eq dX12_drawn_16 (tgt := 40) (by decide) (fun c => ?_) (fun c => ?_)
    · rw [if_pos c] at h
      refine jr_iconst dX12_drawn_40 kic_m1 ?_
      exact jr_ireturn dX12_drawn_41 ⟨Or.inr (Or.inl ⟨rfl, _, rfl⟩), _, _, rfl, h⟩
    · rw [if_neg c] at h
      refine jr_iload_n dX12_drawn_19 rfl rfl ?_
      refine jr_bipush dX12_drawn_20 kbp_10 ?_
      refine jr_irem dX12_drawn_22 (by decide) ?_
      refine jr_i2l dX12_drawn_23 ?_
      refine jr_callS (mc2 := 0) (mc := 0) (ms2 := 0) (ms := 0) vm_X12_255 (av := [.long ((x2 - x2 / (10 : Int32) * (10 : Int32)).toInt64)]) (st := []) rfl rfl (Nat.le_of_ble_eq_true rfl) dX12_drawn_24 (cI_use (M := (yX12_isWay, cX12_isWay, 2, some .boolean)) h ?_)
      intro r2 I2 L2 h
      refine jr_if_eq dX12_drawn_27 (tgt := 40) (by decide) (fun c => ?_) (fun c => ?_)
      · rw [if_pos c] at h
        refine jr_iconst dX12_drawn_40 kic_m1 ?_
        exact jr_ireturn dX12_drawn_41 ⟨Or.inr (Or.inl ⟨rfl, _, rfl⟩), _, _, rfl, h⟩
      · rw [if_neg c] at h
        refine jr_iload_n dX12_drawn_30 rfl rfl ?_
        refine jr_i2l dX12_drawn_31 ?_
        refine jr_lconst dX12_drawn_32 klc_0 ?_
        refine jr_lconst dX12_drawn_33 klc_1 ?_
        refine jr_callS (mc2 := 0) (mc := 0) (ms2 := 0) (ms := 0) vm_X12_96 (av := [.long (x3.toInt64), .long (0 : Int64), .long (1 : Int64)]) (st := []) rfl rfl (Nat.le_of_ble_eq_true rfl) dX12_drawn_34 (cI_use (M := (yX12_within, cX12_within, 6, some .boolean)) h ?_)
        intro r3 I3 L3 h
        refine jr_if_ne dX12_drawn_37 (tgt := 42) (by decide) (fun c => ?_) (fun c => ?_)
        · rw [if_neg c] at h
          refine jr_iload_n dX12_drawn_42 rfl rfl ?_
          refine jr_bipush dX12_drawn_43 kbp_10 ?_
          refine jr_irem dX12_drawn_45 (by decide) ?_
          refine jr_istore dX12_drawn_46 (by decide) rfl ?_
          refine jr_iload_n dX12_drawn_48 rfl rfl ?_
          refine jr_istore dX12_drawn_49 (by decide) rfl ?_
          refine jr_iconst dX12_drawn_51 kic_0 ?_
          refine jr_istore dX12_drawn_52 (by decide) rfl ?_
          refine jr_iconst dX12_drawn_54 kic_0 ?_
          refine jr_istore dX12_drawn_55 (by decide) rfl ?_
          refine jr_iconst dX12_drawn_57 kic_0 ?_
          refine jr_istore dX12_drawn_58 (by decide) rfl ?_
          obtain ⟨e60, h⟩ := h
          exact J.sub (wX12_drawn_60_ok  e60 _ _ _ _ _ _ _ _ _ h) (jsub_some (jsub_none (jsub_some (jsub_some (jsub_some (jsub_some (jsub_some (jsub_some (jsub_some (jsub_none (jsub_none jsub_nil)))))))))))
        · rw [if_pos c] at h
          refine jr_iconst dX12_drawn_40 kic_m1 ?_
          exact jr_ireturn dX12_drawn_41 ⟨Or.inr (Or.inl ⟨rfl, _, rfl⟩), _, _, rfl, h⟩
def wX12_lays_2 (G : jG) (l : Launch) (d : Nat) (Q : Option Value → jS → jL → Prop) : Nat → Int32 → jS → jL → Prop
  | 0, _, _, _ => False
  | n2 + 1, x1, I, L => if (24 : Int32) ≤ x1 then (Q none (u2 I 71 8 (I 71 20)) L) else (vp_in x1 24 ∧ ((wX12_lays_2 G l d Q n2) (x1 + (1 : Int32)) (u2 I 76 x1.toNatClampNeg (I 80 x1.toNatClampNeg)) L))
set_option maxRecDepth 100000 in
set_option maxHeartbeats 4000000 in
theorem wX12_lays_2_ok {G : jG} {l : Launch} {d : Nat} {Q : Option Value → jS → jL → Prop} : ∀ (n : Nat) (x1 : Int32) (I : jS) (L : jL), wX12_lays_2 G l d Q n x1 I L → J G l yX12_lays cX12_lays 2 (d + 1) 0 0 2 [some (.ref 71), some (.int x1)] [] (jKS, I, L, jR0) (jQm (none) Q) := by
  intro n
  induction n with
  | zero => intro x1 I L h; exact h.elim
  | succ n ih =>
    intro x1 I L h
    rw [wX12_lays_2] at h
    refine jr_iload_n dX12_lays_2 rfl rfl ?_
    refine jr_bipush dX12_lays_3 kbp_24 ?_
    refine jr_icmp_ge dX12_lays_5 (tgt := 26) (by decide) (fun c => ?_) (fun c => ?_)
    · rw [if_pos c] at h
      refine jr_aload_n dX12_lays_26 rfl rfl ?_
      refine jr_aload_n dX12_lays_27 rfl rfl ?_
      refine jv_geti rfl ff_X12_210 ks_71 dX12_lays_28 ?_
      refine jr_puti ff_X12_153 ks_71 dX12_lays_31 ?_
      exact jr_return dX12_lays_34 ⟨Or.inl ⟨rfl, rfl⟩, _, _, rfl, h⟩
    · rw [if_neg c] at h
      refine jr_aload_n dX12_lays_8 rfl rfl ?_
      refine jr_geta ff_X12_24 ks_71 rr_71_7 dX12_lays_9 ?_
      refine jr_iload_n dX12_lays_12 rfl rfl ?_
      refine jr_aload_n dX12_lays_13 rfl rfl ?_
      refine jr_geta ff_X12_36 ks_71 rr_71_19 dX12_lays_14 ?_
      refine jr_iload_n dX12_lays_17 rfl rfl ?_
      obtain ⟨g1, h⟩ := h
      refine jv_iaload rfl rfl ks_80 dX12_lays_18 g1 ?_
      refine jr_iastore rfl ks_76 dX12_lays_19 g1 ?_
      refine jr_iinc dX12_lays_20 rfl (by rw [kic_1]) (by decide) rfl ?_
      refine jr_goto dX12_lays_23 (tgt := 2) (by decide) ?_
      exact J.sub (ih _ _ _ h) (jsub_some (jsub_some jsub_nil))
def wX12_lays (G : jG) (l : Launch) (d : Nat) (I : jS) (L : jL) (Q : Option Value → jS → jL → Prop) : Prop := ∃ e2 : Nat, wX12_lays_2 G l d Q e2 (0 : Int32) I L
set_option maxRecDepth 100000 in
set_option maxHeartbeats 4000000 in
theorem wX12_lays_ok {G : jG} {l : Launch} {d : Nat} {Q : Option Value → jS → jL → Prop} {I : jS} {L : jL} (h : wX12_lays G l d I L Q) : cM G l mX12_lays (d + 1) [.ref 71] I L Q := by
  rw [wX12_lays] at h
  show jCall G l yX12_lays cX12_lays 2 (none) (d + 1) 0 0 _ (jKS, I, L, jR0) _
  refine jCall_of (n0 := 1) (ls := [some (.ref 71), none]) (by decide +kernel) rfl (Nat.le_of_ble_eq_true rfl) (jQm_of ?_)
  refine jr_iconst dX12_lays_0 kic_0 ?_
  refine jr_istore_n dX12_lays_1 rfl (by decide) rfl ?_
  obtain ⟨e2, h⟩ := h
  exact J.sub (wX12_lays_2_ok  e2 _ _ _ h) (jsub_some (jsub_some jsub_nil))
def wX12_go_130 (G : jG) (l : Launch) (d : Nat) (Q : Option Value → jS → jL → Prop) (x3 : Int32) (t1 : Int32) (I : jS) (L : jL) : Prop := if x3 = 0 then (Q (some (.int (0 : Int32))) (u2 I 71 40 t1) L) else (Q (some (.int (1 : Int32))) (u2 I 71 40 t1) L)
set_option maxRecDepth 100000 in
set_option maxHeartbeats 4000000 in
theorem wX12_go_130_ok {G : jG} {l : Launch} {d : Nat} {Q : Option Value → jS → jL → Prop} : ∀ (x3 : Int32) (t1 : Int32) (I : jS) (L : jL), wX12_go_130 G l d Q x3 t1 I L → J G l yX12_go cX12_go 4 (d + 1) 0 0 130 [none, none, none, some (.int x3)] [.int t1, .ref 71] (jKS, I, L, jR0) (jQm (some .int) Q) := by
  intro x3 t1 I L h
  rw [wX12_go_130] at h
  refine jr_puti ff_X12_84 ks_71 dX12_go_130 ?_
  refine jr_iload_n dX12_go_133 rfl rfl ?_
  refine jr_if_eq dX12_go_134 (tgt := 141) (by decide) (fun c => ?_) (fun c => ?_)
  · rw [if_pos c] at h
    refine jr_iconst dX12_go_141 kic_0 ?_
    exact jr_ireturn dX12_go_142 ⟨Or.inr (Or.inl ⟨rfl, _, rfl⟩), _, _, rfl, h⟩
  · rw [if_neg c] at h
    refine jr_iconst dX12_go_137 kic_1 ?_
    refine jr_goto dX12_go_138 (tgt := 142) (by decide) ?_
    exact jr_ireturn dX12_go_142 ⟨Or.inr (Or.inl ⟨rfl, _, rfl⟩), _, _, rfl, h⟩
def wX12_go_111 (G : jG) (l : Launch) (d : Nat) (Q : Option Value → jS → jL → Prop) (x3 : Int32) (t1 : Int32) (I : jS) (L : jL) : Prop := if x3 = 0 then (wX12_go_130 G l d Q x3 (I 71 24) (u2 I 71 39 t1) L) else (wX12_go_130 G l d Q x3 (I 71 40) (u2 I 71 39 t1) L)
set_option maxRecDepth 100000 in
set_option maxHeartbeats 4000000 in
theorem wX12_go_111_ok {G : jG} {l : Launch} {d : Nat} {Q : Option Value → jS → jL → Prop} : ∀ (x3 : Int32) (t1 : Int32) (I : jS) (L : jL), wX12_go_111 G l d Q x3 t1 I L → J G l yX12_go cX12_go 4 (d + 1) 0 0 111 [some (.ref 71), none, none, some (.int x3)] [.int t1, .ref 71] (jKS, I, L, jR0) (jQm (some .int) Q) := by
  intro x3 t1 I L h
  rw [wX12_go_111] at h
  refine jr_puti ff_X12_358 ks_71 dX12_go_111 ?_
  refine jr_aload_n dX12_go_114 rfl rfl ?_
  refine jr_iload_n dX12_go_115 rfl rfl ?_
  refine jr_if_eq dX12_go_116 (tgt := 126) (by decide) (fun c => ?_) (fun c => ?_)
  · rw [if_pos c] at h
    refine jr_aload_n dX12_go_126 rfl rfl ?_
    refine jv_geti (u2i (by decide)) ff_X12_232 ks_71 dX12_go_127 ?_
    exact J.sub (wX12_go_130_ok  _ _ _ _ h) (jsub_none (jsub_none (jsub_none (jsub_some jsub_nil))))
  · rw [if_neg c] at h
    refine jr_aload_n dX12_go_119 rfl rfl ?_
    refine jv_geti (u2i (by decide)) ff_X12_84 ks_71 dX12_go_120 ?_
    refine jr_goto dX12_go_123 (tgt := 130) (by decide) ?_
    exact J.sub (wX12_go_130_ok  _ _ _ _ h) (jsub_none (jsub_none (jsub_none (jsub_some jsub_nil))))
def wX12_go_107 (G : jG) (l : Launch) (d : Nat) (Q : Option Value → jS → jL → Prop) (x3 : Int32) (I : jS) (L : jL) : Prop := wX12_go_111 G l d Q x3 (I 71 39) I L
set_option maxRecDepth 100000 in
set_option maxHeartbeats 4000000 in
theorem wX12_go_107_ok {G : jG} {l : Launch} {d : Nat} {Q : Option Value → jS → jL → Prop} : ∀ (x3 : Int32) (I : jS) (L : jL), wX12_go_107 G l d Q x3 I L → J G l yX12_go cX12_go 4 (d + 1) 0 0 107 [some (.ref 71), none, none, some (.int x3)] [.ref 71] (jKS, I, L, jR0) (jQm (some .int) Q) := by
  intro x3 I L h
  rw [wX12_go_107] at h
  refine jr_aload_n dX12_go_107 rfl rfl ?_
  refine jv_geti rfl ff_X12_358 ks_71 dX12_go_108 ?_
  exact J.sub (wX12_go_111_ok  _ _ _ _ h) (jsub_some (jsub_none (jsub_none (jsub_some jsub_nil))))
def wX12_go_76 (G : jG) (l : Launch) (d : Nat) (Q : Option Value → jS → jL → Prop) (x1 : Int32) (x3 : Int32) (t1 : Int32) (t2 : Int32) (I : jS) (L : jL) : Prop := if x3 = 0 then (wX12_go_107 G l d Q x3 (u2 I 71 38 (t1 + t2)) L) else (cI G l mX12_ofGoer d [.ref 71, .int x1, .int (0 : Int32)] (u2 I 71 38 (t1 + t2)) L (fun r1 I1 L1 => (if r1 ≤ (I1 71 39) then (wX12_go_107 G l d Q x3 I1 L1) else (cI G l mX12_ofGoer d [.ref 71, .int x1, .int (0 : Int32)] I1 L1 (fun r2 I2 L2 => (wX12_go_111 G l d Q x3 r2 I2 L2))))))
set_option maxRecDepth 100000 in
set_option maxHeartbeats 4000000 in
theorem wX12_go_76_ok {G : jG} {l : Launch} {d : Nat} {Q : Option Value → jS → jL → Prop} : ∀ (x1 : Int32) (x3 : Int32) (t1 : Int32) (t2 : Int32) (I : jS) (L : jL), wX12_go_76 G l d Q x1 x3 t1 t2 I L → J G l yX12_go cX12_go 4 (d + 1) 0 0 76 [some (.ref 71), some (.int x1), none, some (.int x3)] [.int t2, .int t1, .ref 71] (jKS, I, L, jR0) (jQm (some .int) Q) := by
  intro x1 x3 t1 t2 I L h
  rw [wX12_go_76] at h
  refine jr_iadd dX12_go_76 ?_
  refine jr_puti ff_X12_355 ks_71 dX12_go_77 ?_
  refine jr_aload_n dX12_go_80 rfl rfl ?_
  refine jr_iload_n dX12_go_81 rfl rfl ?_
  refine jr_if_eq dX12_go_82 (tgt := 107) (by decide) (fun c => ?_) (fun c => ?_)
  · rw [if_pos c] at h
    exact J.sub (wX12_go_107_ok  _ _ _ h) (jsub_some (jsub_none (jsub_none (jsub_some jsub_nil))))
  · rw [if_neg c] at h
    refine jr_aload_n dX12_go_85 rfl rfl ?_
    refine jr_iload_n dX12_go_86 rfl rfl ?_
    refine jr_iconst dX12_go_87 kic_0 ?_
    refine jr_callV (mc2 := 0) (mc := 0) (ms2 := 0) (ms := 0) vm_X12_225 (av := [.int x1, .int (0 : Int32)]) (st := [.ref 71]) rfl rfl ks_71 (by decide) rfl (Nat.le_of_ble_eq_true rfl) dX12_go_88 (cI_use (M := (yX12_ofGoer, cX12_ofGoer, 3, some .int)) h ?_)
    intro r1 I1 L1 h
    refine jr_aload_n dX12_go_91 rfl rfl ?_
    refine jv_geti rfl ff_X12_358 ks_71 dX12_go_92 ?_
    refine jr_icmp_le dX12_go_95 (tgt := 107) (by decide) (fun c => ?_) (fun c => ?_)
    · rw [if_pos c] at h
      exact J.sub (wX12_go_107_ok  _ _ _ h) (jsub_some (jsub_none (jsub_none (jsub_some jsub_nil))))
    · rw [if_neg c] at h
      refine jr_aload_n dX12_go_98 rfl rfl ?_
      refine jr_iload_n dX12_go_99 rfl rfl ?_
      refine jr_iconst dX12_go_100 kic_0 ?_
      refine jr_callV (mc2 := 0) (mc := 0) (ms2 := 0) (ms := 0) vm_X12_225 (av := [.int x1, .int (0 : Int32)]) (st := [.ref 71]) rfl rfl ks_71 (by decide) rfl (Nat.le_of_ble_eq_true rfl) dX12_go_101 (cI_use (M := (yX12_ofGoer, cX12_ofGoer, 3, some .int)) h ?_)
      intro r2 I2 L2 h
      refine jr_goto dX12_go_104 (tgt := 111) (by decide) ?_
      exact J.sub (wX12_go_111_ok  _ _ _ _ h) (jsub_some (jsub_none (jsub_none (jsub_some jsub_nil))))
def wX12_go_58 (G : jG) (l : Launch) (d : Nat) (Q : Option Value → jS → jL → Prop) (x1 : Int32) (x3 : Int32) (t1 : Int32) (t2 : Int32) (I : jS) (L : jL) : Prop := if x3 = 0 then (wX12_go_76 G l d Q x1 x3 (I 71 38) (1 : Int32) (u2 I 71 37 (t1 + t2)) L) else (wX12_go_76 G l d Q x1 x3 (I 71 38) (0 : Int32) (u2 I 71 37 (t1 + t2)) L)
set_option maxRecDepth 100000 in
set_option maxHeartbeats 4000000 in
theorem wX12_go_58_ok {G : jG} {l : Launch} {d : Nat} {Q : Option Value → jS → jL → Prop} : ∀ (x1 : Int32) (x3 : Int32) (t1 : Int32) (t2 : Int32) (I : jS) (L : jL), wX12_go_58 G l d Q x1 x3 t1 t2 I L → J G l yX12_go cX12_go 4 (d + 1) 0 0 58 [some (.ref 71), some (.int x1), none, some (.int x3)] [.int t2, .int t1, .ref 71] (jKS, I, L, jR0) (jQm (some .int) Q) := by
  intro x1 x3 t1 t2 I L h
  rw [wX12_go_58] at h
  refine jr_iadd dX12_go_58 ?_
  refine jr_puti ff_X12_352 ks_71 dX12_go_59 ?_
  refine jr_aload_n dX12_go_62 rfl rfl ?_
  refine jr_dup dX12_go_63 rfl ?_
  refine jv_geti (u2i (by decide)) ff_X12_355 ks_71 dX12_go_64 ?_
  refine jr_iload_n dX12_go_67 rfl rfl ?_
  refine jr_if_eq dX12_go_68 (tgt := 75) (by decide) (fun c => ?_) (fun c => ?_)
  · rw [if_pos c] at h
    refine jr_iconst dX12_go_75 kic_1 ?_
    exact J.sub (wX12_go_76_ok  _ _ _ _ _ _ h) (jsub_some (jsub_some (jsub_none (jsub_some jsub_nil))))
  · rw [if_neg c] at h
    refine jr_iconst dX12_go_71 kic_0 ?_
    refine jr_goto dX12_go_72 (tgt := 76) (by decide) ?_
    exact J.sub (wX12_go_76_ok  _ _ _ _ _ _ h) (jsub_some (jsub_some (jsub_none (jsub_some jsub_nil))))
def wX12_go (G : jG) (l : Launch) (d : Nat) (x1 : Int32) (x2 : Int32) (I : jS) (L : jL) (Q : Option Value → jS → jL → Prop) : Prop := cI G l mX12_isGoer d [.ref 71, .long (x1.toInt64)] I L (fun r1 I1 L1 => (if r1 = 0 then (Q (some (.int (-1 : Int32))) I1 L1) else (cI G l mX12_isWay d [.long (x2.toInt64)] I1 L1 (fun r2 I2 L2 => (if r2 = 0 then (Q (some (.int (-1 : Int32))) I2 L2) else (cV G l mX12_begins1 d [.ref 71] I2 L2 (fun I3 L3 => (cI G l mX12_crosses d [.ref 71, .int x1, .int x2] I3 L3 (fun r4 I4 L4 => (cV G l mX12_lays d [.ref 71] I4 L4 (fun I5 L5 => (if r4 = 0 then (wX12_go_58 G l d Q x1 r4 (I5 71 37) (0 : Int32) (u2 I5 71 36 ((I5 71 36) + (1 : Int32))) L5) else (wX12_go_58 G l d Q x1 r4 (I5 71 37) (1 : Int32) (u2 I5 71 36 ((I5 71 36) + (1 : Int32))) L5)))))))))))))
set_option maxRecDepth 100000 in
set_option maxHeartbeats 4000000 in
theorem wX12_go_ok {G : jG} {l : Launch} {d : Nat} {Q : Option Value → jS → jL → Prop} {x1 : Int32} {x2 : Int32} {I : jS} {L : jL} (h : wX12_go G l d x1 x2 I L Q) : cM G l mX12_go (d + 1) [.ref 71, .int x1, .int x2] I L Q := by
  rw [wX12_go] at h
  show jCall G l yX12_go cX12_go 4 (some .int) (d + 1) 0 0 _ (jKS, I, L, jR0) _
  refine jCall_of (n0 := 1) (ls := [some (.ref 71), some (.int x1), some (.int x2), none]) (by decide +kernel) rfl (Nat.le_of_ble_eq_true rfl) (jQm_of ?_)
  refine jr_aload_n dX12_go_0 rfl rfl ?_
  refine jr_iload_n dX12_go_1 rfl rfl ?_
  refine jr_i2l dX12_go_2 ?_
  refine jr_callV (mc2 := 0) (mc := 0) (ms2 := 0) (ms := 0) vm_X12_125 (av := [.long (x1.toInt64)]) (st := []) rfl rfl ks_71 (by decide) rfl (Nat.le_of_ble_eq_true rfl) dX12_go_3 (cI_use (M := (yX12_isGoer, cX12_isGoer, 3, some .boolean)) h ?_)
  intro r1 I1 L1 h
  refine jr_if_eq dX12_go_6 (tgt := 17) (by decide) (fun c => ?_) (fun c => ?_)
  · rw [if_pos c] at h
    refine jr_iconst dX12_go_17 kic_m1 ?_
    exact jr_ireturn dX12_go_18 ⟨Or.inr (Or.inl ⟨rfl, _, rfl⟩), _, _, rfl, h⟩
  · rw [if_neg c] at h
    refine jr_iload_n dX12_go_9 rfl rfl ?_
    refine jr_i2l dX12_go_10 ?_
    refine jr_callS (mc2 := 0) (mc := 0) (ms2 := 0) (ms := 0) vm_X12_255 (av := [.long (x2.toInt64)]) (st := []) rfl rfl (Nat.le_of_ble_eq_true rfl) dX12_go_11 (cI_use (M := (yX12_isWay, cX12_isWay, 2, some .boolean)) h ?_)
    intro r2 I2 L2 h
    refine jr_if_ne dX12_go_14 (tgt := 19) (by decide) (fun c => ?_) (fun c => ?_)
    · rw [if_neg c] at h
      refine jr_aload_n dX12_go_19 rfl rfl ?_
      refine jr_callV (mc2 := 0) (mc := 0) (ms2 := 0) (ms := 0) vm_X12_146 (av := []) (st := []) rfl rfl ks_71 (by decide) rfl (Nat.le_of_ble_eq_true rfl) dX12_go_20 (cV_use (M := (yX12_begins1, cX12_begins1, 2, none)) h ?_)
      intro I3 L3 h
      refine jr_aload_n dX12_go_23 rfl rfl ?_
      refine jr_iload_n dX12_go_24 rfl rfl ?_
      refine jr_iload_n dX12_go_25 rfl rfl ?_
      refine jr_callV (mc2 := 0) (mc := 0) (ms2 := 0) (ms := 0) vm_X12_249 (av := [.int x1, .int x2]) (st := []) rfl rfl ks_71 (by decide) rfl (Nat.le_of_ble_eq_true rfl) dX12_go_26 (cI_use (M := (yX12_crosses, cX12_crosses, 3, some .boolean)) h ?_)
      intro r4 I4 L4 h
      refine jr_istore_n dX12_go_29 rfl (by decide) rfl ?_
      refine jr_aload_n dX12_go_30 rfl rfl ?_
      refine jr_callV (mc2 := 0) (mc := 0) (ms2 := 0) (ms := 0) vm_X12_346 (av := []) (st := []) rfl rfl ks_71 (by decide) rfl (Nat.le_of_ble_eq_true rfl) dX12_go_31 (cV_use (M := (yX12_lays, cX12_lays, 2, none)) h ?_)
      intro I5 L5 h
      refine jr_aload_n dX12_go_34 rfl rfl ?_
      refine jr_dup dX12_go_35 rfl ?_
      refine jv_geti rfl ff_X12_349 ks_71 dX12_go_36 ?_
      refine jr_iconst dX12_go_39 kic_1 ?_
      refine jr_iadd dX12_go_40 ?_
      refine jr_puti ff_X12_349 ks_71 dX12_go_41 ?_
      refine jr_aload_n dX12_go_44 rfl rfl ?_
      refine jr_dup dX12_go_45 rfl ?_
      refine jv_geti (u2i (by decide)) ff_X12_352 ks_71 dX12_go_46 ?_
      refine jr_iload_n dX12_go_49 rfl rfl ?_
      refine jr_if_eq dX12_go_50 (tgt := 57) (by decide) (fun c => ?_) (fun c => ?_)
      · rw [if_pos c] at h
        refine jr_iconst dX12_go_57 kic_0 ?_
        exact J.sub (wX12_go_58_ok  _ _ _ _ _ _ h) (jsub_some (jsub_some (jsub_none (jsub_some jsub_nil))))
      · rw [if_neg c] at h
        refine jr_iconst dX12_go_53 kic_1 ?_
        refine jr_goto dX12_go_54 (tgt := 58) (by decide) ?_
        exact J.sub (wX12_go_58_ok  _ _ _ _ _ _ h) (jsub_some (jsub_some (jsub_none (jsub_some jsub_nil))))
    · rw [if_pos c] at h
      refine jr_iconst dX12_go_17 kic_m1 ?_
      exact jr_ireturn dX12_go_18 ⟨Or.inr (Or.inl ⟨rfl, _, rfl⟩), _, _, rfl, h⟩
def wX12_stay (G : jG) (l : Launch) (d : Nat) (x1 : Int32) (I : jS) (L : jL) (Q : Option Value → jS → jL → Prop) : Prop := cI G l mX12_within d [.long (x1.toInt64), .long (1 : Int64), .long (999 : Int64)] I L (fun r1 I1 L1 => (if r1 = 0 then (Q (some (.int (-1 : Int32))) I1 L1) else (if ((I1 71 8) + x1) ≤ (9999 : Int32) then (cV G l mX12_begins1 d [.ref 71] I1 L1 (fun I2 L2 => (cV G l mX12_passes d [.ref 71, .int x1] I2 L2 (fun I3 L3 => (cV G l mX12_lays d [.ref 71] I3 L3 (fun I4 L4 => (Q (some (.int (I4 71 8))) I4 L4))))))) else (Q (some (.int (-5 : Int32))) I1 L1))))
set_option maxRecDepth 100000 in
set_option maxHeartbeats 4000000 in
theorem wX12_stay_ok {G : jG} {l : Launch} {d : Nat} {Q : Option Value → jS → jL → Prop} {x1 : Int32} {I : jS} {L : jL} (h : wX12_stay G l d x1 I L Q) : cM G l mX12_stay (d + 1) [.ref 71, .int x1] I L Q := by
  rw [wX12_stay] at h
  show jCall G l yX12_stay cX12_stay 2 (some .int) (d + 1) 0 0 _ (jKS, I, L, jR0) _
  refine jCall_of (n0 := 0) (ls := [some (.ref 71), some (.int x1)]) (by decide +kernel) rfl (Nat.le_of_ble_eq_true rfl) (jQm_of ?_)
  refine jr_iload_n dX12_stay_0 rfl rfl ?_
  refine jr_i2l dX12_stay_1 ?_
  refine jr_lconst dX12_stay_2 klc_1 ?_
  refine jr_ldc2 kl_X12_131 dX12_stay_3 ?_
  refine jr_callS (mc2 := 0) (mc := 0) (ms2 := 0) (ms := 0) vm_X12_96 (av := [.long (x1.toInt64), .long (1 : Int64), .long (999 : Int64)]) (st := []) rfl rfl (Nat.le_of_ble_eq_true rfl) dX12_stay_6 (cI_use (M := (yX12_within, cX12_within, 6, some .boolean)) h ?_)
  intro r1 I1 L1 h
  refine jr_if_ne dX12_stay_9 (tgt := 14) (by decide) (fun c => ?_) (fun c => ?_)
  · rw [if_neg c] at h
    refine jr_aload_n dX12_stay_14 rfl rfl ?_
    refine jv_geti rfl ff_X12_153 ks_71 dX12_stay_15 ?_
    refine jr_iload_n dX12_stay_18 rfl rfl ?_
    refine jr_iadd dX12_stay_19 ?_
    refine jr_sipush dX12_stay_20 ksp_9999 ?_
    refine jr_icmp_le dX12_stay_23 (tgt := 29) (by decide) (fun c => ?_) (fun c => ?_)
    · rw [if_pos c] at h
      refine jr_aload_n dX12_stay_29 rfl rfl ?_
      refine jr_callV (mc2 := 0) (mc := 0) (ms2 := 0) (ms := 0) vm_X12_146 (av := []) (st := []) rfl rfl ks_71 (by decide) rfl (Nat.le_of_ble_eq_true rfl) dX12_stay_30 (cV_use (M := (yX12_begins1, cX12_begins1, 2, none)) h ?_)
      intro I2 L2 h
      refine jr_aload_n dX12_stay_33 rfl rfl ?_
      refine jr_iload_n dX12_stay_34 rfl rfl ?_
      refine jr_callV (mc2 := 0) (mc := 0) (ms2 := 0) (ms := 0) vm_X12_235 (av := [.int x1]) (st := []) rfl rfl ks_71 (by decide) rfl (Nat.le_of_ble_eq_true rfl) dX12_stay_35 (cV_use (M := (yX12_passes, cX12_passes, 3, none)) h ?_)
      intro I3 L3 h
      refine jr_aload_n dX12_stay_38 rfl rfl ?_
      refine jr_callV (mc2 := 0) (mc := 0) (ms2 := 0) (ms := 0) vm_X12_346 (av := []) (st := []) rfl rfl ks_71 (by decide) rfl (Nat.le_of_ble_eq_true rfl) dX12_stay_39 (cV_use (M := (yX12_lays, cX12_lays, 2, none)) h ?_)
      intro I4 L4 h
      refine jr_aload_n dX12_stay_42 rfl rfl ?_
      refine jv_geti rfl ff_X12_153 ks_71 dX12_stay_43 ?_
      exact jr_ireturn dX12_stay_46 ⟨Or.inr (Or.inl ⟨rfl, _, rfl⟩), _, _, rfl, h⟩
    · rw [if_neg c] at h
      refine jr_bipush dX12_stay_26 kbp_m5 ?_
      exact jr_ireturn dX12_stay_28 ⟨Or.inr (Or.inl ⟨rfl, _, rfl⟩), _, _, rfl, h⟩
  · rw [if_pos c] at h
    refine jr_iconst dX12_stay_12 kic_m1 ?_
    exact jr_ireturn dX12_stay_13 ⟨Or.inr (Or.inl ⟨rfl, _, rfl⟩), _, _, rfl, h⟩
def wX12_led (G : jG) (l : Launch) (d : Nat) (x1 : Int32) (I : jS) (L : jL) (Q : Option Value → jS → jL → Prop) : Prop := if x1 = (0 : Int32) then (Q (some (.int (I 71 36))) I L) else (if x1 = (1 : Int32) then (Q (some (.int (I 71 37))) I L) else (if x1 = (2 : Int32) then (Q (some (.int (I 71 38))) I L) else (if x1 = (3 : Int32) then (Q (some (.int (I 71 39))) I L) else (if x1 = (4 : Int32) then (Q (some (.int (I 71 40))) I L) else (Q (some (.int (-1 : Int32))) I L)))))
set_option maxRecDepth 100000 in
set_option maxHeartbeats 4000000 in
theorem wX12_led_ok {G : jG} {l : Launch} {d : Nat} {Q : Option Value → jS → jL → Prop} {x1 : Int32} {I : jS} {L : jL} (h : wX12_led G l d x1 I L Q) : cM G l mX12_led (d + 1) [.ref 71, .int x1] I L Q := by
  rw [wX12_led] at h
  show jCall G l yX12_led cX12_led 2 (some .int) (d + 1) 0 0 _ (jKS, I, L, jR0) _
  refine jCall_of (n0 := 0) (ls := [some (.ref 71), some (.int x1)]) (by decide +kernel) rfl (Nat.le_of_ble_eq_true rfl) (jQm_of ?_)
  refine jr_iload_n dX12_led_0 rfl rfl ?_
  by_cases c : x1 = (0 : Int32)
  · rw [if_pos c] at h
    refine jr_tableIn dX12_led_1 (jtl c (by decide)) (jtg c (by decide)) (off := 35) (jtb c (by decide)) (tgt := 36) (by decide) ?_
    refine jr_aload_n dX12_led_36 rfl rfl ?_
    refine jv_geti rfl ff_X12_349 ks_71 dX12_led_37 ?_
    exact jr_ireturn dX12_led_40 ⟨Or.inr (Or.inl ⟨rfl, _, rfl⟩), _, _, rfl, h⟩
  · rw [if_neg c] at h
    have c0 := c
    by_cases c : x1 = (1 : Int32)
    · rw [if_pos c] at h
      refine jr_tableIn dX12_led_1 (jtl c (by decide)) (jtg c (by decide)) (off := 40) (jtb c (by decide)) (tgt := 41) (by decide) ?_
      refine jr_aload_n dX12_led_41 rfl rfl ?_
      refine jv_geti rfl ff_X12_352 ks_71 dX12_led_42 ?_
      exact jr_ireturn dX12_led_45 ⟨Or.inr (Or.inl ⟨rfl, _, rfl⟩), _, _, rfl, h⟩
    · rw [if_neg c] at h
      have c1 := c
      by_cases c : x1 = (2 : Int32)
      · rw [if_pos c] at h
        refine jr_tableIn dX12_led_1 (jtl c (by decide)) (jtg c (by decide)) (off := 45) (jtb c (by decide)) (tgt := 46) (by decide) ?_
        refine jr_aload_n dX12_led_46 rfl rfl ?_
        refine jv_geti rfl ff_X12_355 ks_71 dX12_led_47 ?_
        exact jr_ireturn dX12_led_50 ⟨Or.inr (Or.inl ⟨rfl, _, rfl⟩), _, _, rfl, h⟩
      · rw [if_neg c] at h
        have c2 := c
        by_cases c : x1 = (3 : Int32)
        · rw [if_pos c] at h
          refine jr_tableIn dX12_led_1 (jtl c (by decide)) (jtg c (by decide)) (off := 50) (jtb c (by decide)) (tgt := 51) (by decide) ?_
          refine jr_aload_n dX12_led_51 rfl rfl ?_
          refine jv_geti rfl ff_X12_358 ks_71 dX12_led_52 ?_
          exact jr_ireturn dX12_led_55 ⟨Or.inr (Or.inl ⟨rfl, _, rfl⟩), _, _, rfl, h⟩
        · rw [if_neg c] at h
          have c3 := c
          by_cases c : x1 = (4 : Int32)
          · rw [if_pos c] at h
            refine jr_tableIn dX12_led_1 (jtl c (by decide)) (jtg c (by decide)) (off := 55) (jtb c (by decide)) (tgt := 56) (by decide) ?_
            refine jr_aload_n dX12_led_56 rfl rfl ?_
            refine jv_geti rfl ff_X12_84 ks_71 dX12_led_57 ?_
            exact jr_ireturn dX12_led_60 ⟨Or.inr (Or.inl ⟨rfl, _, rfl⟩), _, _, rfl, h⟩
          · rw [if_neg c] at h
            have c4 := c
            refine jr_tableOut dX12_led_1 (by
              rcases Int.lt_or_le (x1).toInt (0) with q | q
              · exact Or.inl q
              · rcases Int.lt_or_le (4) (x1).toInt with q2 | q2
                · exact Or.inr q2
                · exfalso
                  have ec0 := lv_neT c0 (a := 0) rfl
                  have ec1 := lv_neT c1 (a := 1) rfl
                  have ec2 := lv_neT c2 (a := 2) rfl
                  have ec3 := lv_neT c3 (a := 3) rfl
                  have ec4 := lv_neT c4 (a := 4) rfl
                  omega) (tgt := 61) (by decide) ?_
            refine jr_iconst dX12_led_61 kic_m1 ?_
            exact jr_ireturn dX12_led_62 ⟨Or.inr (Or.inl ⟨rfl, _, rfl⟩), _, _, rfl, h⟩
def wX12_image_44 (G : jG) (l : Launch) (d : Nat) (Q : Option Value → jS → jL → Prop) : Nat → Int32 → jS → jL → Prop
  | 0, _, _, _ => False
  | n44 + 1, x1, I, L => if (5 : Int32) ≤ x1 then (Q (some (.int (I 71 8))) I L) else (cI G l mX12_led d [.ref 71, .int x1] I L (fun r1 I1 L1 => (vp_in ((25 : Int32) + x1) 30 ∧ ((wX12_image_44 G l d Q n44) (x1 + (1 : Int32)) (u2 I1 86 (((25 : Int32) + x1).toNatClampNeg) r1) L1))))
set_option maxRecDepth 100000 in
set_option maxHeartbeats 4000000 in
theorem wX12_image_44_ok {G : jG} {l : Launch} {d : Nat} {Q : Option Value → jS → jL → Prop} : ∀ (n : Nat) (x1 : Int32) (I : jS) (L : jL), wX12_image_44 G l d Q n x1 I L → J G l yX12_image cX12_image 2 (d + 1) 0 0 44 [some (.ref 71), some (.int x1)] [] (jKS, I, L, jR0) (jQm (some .int) Q) := by
  intro n
  induction n with
  | zero => intro x1 I L h; exact h.elim
  | succ n ih =>
    intro x1 I L h
    rw [wX12_image_44] at h
    refine jr_iload_n dX12_image_44 rfl rfl ?_
    refine jr_iconst dX12_image_45 kic_5 ?_
    refine jr_icmp_ge dX12_image_46 (tgt := 69) (by decide) (fun c => ?_) (fun c => ?_)
    · rw [if_pos c] at h
      refine jr_aload_n dX12_image_69 rfl rfl ?_
      refine jv_geti rfl ff_X12_153 ks_71 dX12_image_70 ?_
      exact jr_ireturn dX12_image_73 ⟨Or.inr (Or.inl ⟨rfl, _, rfl⟩), _, _, rfl, h⟩
    · rw [if_neg c] at h
      refine jr_aload_n dX12_image_49 rfl rfl ?_
      refine jr_geta ff_X12_59 ks_71 rr_71_42 dX12_image_50 ?_
      refine jr_bipush dX12_image_53 kbp_25 ?_
      refine jr_iload_n dX12_image_55 rfl rfl ?_
      refine jr_iadd dX12_image_56 ?_
      refine jr_aload_n dX12_image_57 rfl rfl ?_
      refine jr_iload_n dX12_image_58 rfl rfl ?_
      refine jr_callV (mc2 := 0) (mc := 0) (ms2 := 0) (ms := 0) vm_X12_364 (av := [.int x1]) (st := [.int ((25 : Int32) + x1), .ref 86]) rfl rfl ks_71 (by decide) rfl (Nat.le_of_ble_eq_true rfl) dX12_image_59 (cI_use (M := (yX12_led, cX12_led, 2, some .int)) h ?_)
      intro r1 I1 L1 h
      obtain ⟨g2, h⟩ := h
      refine jr_iastore rfl ks_86 dX12_image_62 g2 ?_
      refine jr_iinc dX12_image_63 rfl (by rw [kic_1]) (by decide) rfl ?_
      refine jr_goto dX12_image_66 (tgt := 44) (by decide) ?_
      exact J.sub (ih _ _ _ h) (jsub_some (jsub_some jsub_nil))
def wX12_image_7 (G : jG) (l : Launch) (d : Nat) (Q : Option Value → jS → jL → Prop) : Nat → Int32 → jS → jL → Prop
  | 0, _, _, _ => False
  | n7 + 1, x1, I, L => if (24 : Int32) ≤ x1 then (∃ e44 : Nat, wX12_image_44 G l d Q e44 (0 : Int32) (u2 I 86 24 (I 71 8)) L) else (vp_in x1 24 ∧ (vp_in x1 30 ∧ ((wX12_image_7 G l d Q n7) (x1 + (1 : Int32)) (u2 I 86 x1.toNatClampNeg (I 76 x1.toNatClampNeg)) L)))
set_option maxRecDepth 100000 in
set_option maxHeartbeats 4000000 in
theorem wX12_image_7_ok {G : jG} {l : Launch} {d : Nat} {Q : Option Value → jS → jL → Prop} : ∀ (n : Nat) (x1 : Int32) (I : jS) (L : jL), wX12_image_7 G l d Q n x1 I L → J G l yX12_image cX12_image 2 (d + 1) 0 0 7 [some (.ref 71), some (.int x1)] [] (jKS, I, L, jR0) (jQm (some .int) Q) := by
  intro n
  induction n with
  | zero => intro x1 I L h; exact h.elim
  | succ n ih =>
    intro x1 I L h
    rw [wX12_image_7] at h
    refine jr_iload_n dX12_image_7 rfl rfl ?_
    refine jr_bipush dX12_image_8 kbp_24 ?_
    refine jr_icmp_ge dX12_image_10 (tgt := 31) (by decide) (fun c => ?_) (fun c => ?_)
    · rw [if_pos c] at h
      refine jr_aload_n dX12_image_31 rfl rfl ?_
      refine jr_geta ff_X12_59 ks_71 rr_71_42 dX12_image_32 ?_
      refine jr_bipush dX12_image_35 kbp_24 ?_
      refine jr_aload_n dX12_image_37 rfl rfl ?_
      refine jv_geti rfl ff_X12_153 ks_71 dX12_image_38 ?_
      refine jr_iastore nn_24 ks_86 dX12_image_41 vin_24_30 ?_
      refine jr_iconst dX12_image_42 kic_0 ?_
      refine jr_istore_n dX12_image_43 rfl (by decide) rfl ?_
      obtain ⟨e44, h⟩ := h
      exact J.sub (wX12_image_44_ok  e44 _ _ _ h) (jsub_some (jsub_some jsub_nil))
    · rw [if_neg c] at h
      refine jr_aload_n dX12_image_13 rfl rfl ?_
      refine jr_geta ff_X12_59 ks_71 rr_71_42 dX12_image_14 ?_
      refine jr_iload_n dX12_image_17 rfl rfl ?_
      refine jr_aload_n dX12_image_18 rfl rfl ?_
      refine jr_geta ff_X12_24 ks_71 rr_71_7 dX12_image_19 ?_
      refine jr_iload_n dX12_image_22 rfl rfl ?_
      obtain ⟨g1, h⟩ := h
      refine jv_iaload rfl rfl ks_76 dX12_image_23 g1 ?_
      obtain ⟨g2, h⟩ := h
      refine jr_iastore rfl ks_86 dX12_image_24 g2 ?_
      refine jr_iinc dX12_image_25 rfl (by rw [kic_1]) (by decide) rfl ?_
      refine jr_goto dX12_image_28 (tgt := 7) (by decide) ?_
      exact J.sub (ih _ _ _ h) (jsub_some (jsub_some jsub_nil))
def wX12_image (G : jG) (l : Launch) (d : Nat) (I : jS) (L : jL) (Q : Option Value → jS → jL → Prop) : Prop := ∃ e7 : Nat, wX12_image_7 G l d Q e7 (0 : Int32) (u2 I 71 41 (1 : Int32)) L
set_option maxRecDepth 100000 in
set_option maxHeartbeats 4000000 in
theorem wX12_image_ok {G : jG} {l : Launch} {d : Nat} {Q : Option Value → jS → jL → Prop} {I : jS} {L : jL} (h : wX12_image G l d I L Q) : cM G l mX12_image (d + 1) [.ref 71] I L Q := by
  rw [wX12_image] at h
  show jCall G l yX12_image cX12_image 2 (some .int) (d + 1) 0 0 _ (jKS, I, L, jR0) _
  refine jCall_of (n0 := 1) (ls := [some (.ref 71), none]) (by decide +kernel) rfl (Nat.le_of_ble_eq_true rfl) (jQm_of ?_)
  refine jr_aload_n dX12_image_0 rfl rfl ?_
  refine jr_iconst dX12_image_1 kic_1 ?_
  refine jr_putz ff_X12_361 ks_71 (Or.inr rfl) dX12_image_2 ?_
  refine jr_iconst dX12_image_5 kic_0 ?_
  refine jr_istore_n dX12_image_6 rfl (by decide) rfl ?_
  obtain ⟨e7, h⟩ := h
  exact J.sub (wX12_image_7_ok  e7 _ _ _ h) (jsub_some (jsub_some jsub_nil))
def wX12_back_12 (G : jG) (l : Launch) (d : Nat) (Q : Option Value → jS → jL → Prop) : Nat → Int32 → jS → jL → Prop
  | 0, _, _, _ => False
  | n12 + 1, x1, I, L => if (24 : Int32) ≤ x1 then (Q (some (.int (I 86 24))) (u2 (u2 (u2 (u2 (u2 (u2 I 71 8 (I 86 24)) 71 36 (I 86 25)) 71 37 (I 86 26)) 71 38 (I 86 27)) 71 39 (I 86 28)) 71 40 (I 86 29)) L) else (vp_in x1 30 ∧ (vp_in x1 24 ∧ ((wX12_back_12 G l d Q n12) (x1 + (1 : Int32)) (u2 I 76 x1.toNatClampNeg (I 86 x1.toNatClampNeg)) L)))
set_option maxRecDepth 100000 in
set_option maxHeartbeats 4000000 in
theorem wX12_back_12_ok {G : jG} {l : Launch} {d : Nat} {Q : Option Value → jS → jL → Prop} : ∀ (n : Nat) (x1 : Int32) (I : jS) (L : jL), wX12_back_12 G l d Q n x1 I L → J G l yX12_back cX12_back 2 (d + 1) 0 0 12 [some (.ref 71), some (.int x1)] [] (jKS, I, L, jR0) (jQm (some .int) Q) := by
  intro n
  induction n with
  | zero => intro x1 I L h; exact h.elim
  | succ n ih =>
    intro x1 I L h
    rw [wX12_back_12] at h
    refine jr_iload_n dX12_back_12 rfl rfl ?_
    refine jr_bipush dX12_back_13 kbp_24 ?_
    refine jr_icmp_ge dX12_back_15 (tgt := 36) (by decide) (fun c => ?_) (fun c => ?_)
    · rw [if_pos c] at h
      refine jr_aload_n dX12_back_36 rfl rfl ?_
      refine jr_aload_n dX12_back_37 rfl rfl ?_
      refine jr_geta ff_X12_59 ks_71 rr_71_42 dX12_back_38 ?_
      refine jr_bipush dX12_back_41 kbp_24 ?_
      refine jv_iaload rfl nn_24 ks_86 dX12_back_43 vin_24_30 ?_
      refine jr_puti ff_X12_153 ks_71 dX12_back_44 ?_
      refine jr_aload_n dX12_back_47 rfl rfl ?_
      refine jr_aload_n dX12_back_48 rfl rfl ?_
      refine jr_geta ff_X12_59 ks_71 rr_71_42 dX12_back_49 ?_
      refine jr_bipush dX12_back_52 kbp_25 ?_
      refine jv_iaload (u2n (by decide)) nn_25 ks_86 dX12_back_54 vin_25_30 ?_
      refine jr_puti ff_X12_349 ks_71 dX12_back_55 ?_
      refine jr_aload_n dX12_back_58 rfl rfl ?_
      refine jr_aload_n dX12_back_59 rfl rfl ?_
      refine jr_geta ff_X12_59 ks_71 rr_71_42 dX12_back_60 ?_
      refine jr_bipush dX12_back_63 kbp_26 ?_
      refine jv_iaload ((u2n (by decide)).trans (u2n (by decide))) nn_26 ks_86 dX12_back_65 vin_26_30 ?_
      refine jr_puti ff_X12_352 ks_71 dX12_back_66 ?_
      refine jr_aload_n dX12_back_69 rfl rfl ?_
      refine jr_aload_n dX12_back_70 rfl rfl ?_
      refine jr_geta ff_X12_59 ks_71 rr_71_42 dX12_back_71 ?_
      refine jr_bipush dX12_back_74 kbp_27 ?_
      refine jv_iaload ((u2n (by decide)).trans ((u2n (by decide)).trans (u2n (by decide)))) nn_27 ks_86 dX12_back_76 vin_27_30 ?_
      refine jr_puti ff_X12_355 ks_71 dX12_back_77 ?_
      refine jr_aload_n dX12_back_80 rfl rfl ?_
      refine jr_aload_n dX12_back_81 rfl rfl ?_
      refine jr_geta ff_X12_59 ks_71 rr_71_42 dX12_back_82 ?_
      refine jr_bipush dX12_back_85 kbp_28 ?_
      refine jv_iaload ((u2n (by decide)).trans ((u2n (by decide)).trans ((u2n (by decide)).trans (u2n (by decide))))) nn_28 ks_86 dX12_back_87 vin_28_30 ?_
      refine jr_puti ff_X12_358 ks_71 dX12_back_88 ?_
      refine jr_aload_n dX12_back_91 rfl rfl ?_
      refine jr_aload_n dX12_back_92 rfl rfl ?_
      refine jr_geta ff_X12_59 ks_71 rr_71_42 dX12_back_93 ?_
      refine jr_bipush dX12_back_96 kbp_29 ?_
      refine jv_iaload ((u2n (by decide)).trans ((u2n (by decide)).trans ((u2n (by decide)).trans ((u2n (by decide)).trans (u2n (by decide)))))) nn_29 ks_86 dX12_back_98 vin_29_30 ?_
      refine jr_puti ff_X12_84 ks_71 dX12_back_99 ?_
      refine jr_aload_n dX12_back_102 rfl rfl ?_
      refine jv_geti ((u2i (by decide)).trans ((u2i (by decide)).trans ((u2i (by decide)).trans ((u2i (by decide)).trans ((u2i (by decide)).trans u2e))))) ff_X12_153 ks_71 dX12_back_103 ?_
      exact jr_ireturn dX12_back_106 ⟨Or.inr (Or.inl ⟨rfl, _, rfl⟩), _, _, rfl, h⟩
    · rw [if_neg c] at h
      refine jr_aload_n dX12_back_18 rfl rfl ?_
      refine jr_geta ff_X12_24 ks_71 rr_71_7 dX12_back_19 ?_
      refine jr_iload_n dX12_back_22 rfl rfl ?_
      refine jr_aload_n dX12_back_23 rfl rfl ?_
      refine jr_geta ff_X12_59 ks_71 rr_71_42 dX12_back_24 ?_
      refine jr_iload_n dX12_back_27 rfl rfl ?_
      obtain ⟨g1, h⟩ := h
      refine jv_iaload rfl rfl ks_86 dX12_back_28 g1 ?_
      obtain ⟨g2, h⟩ := h
      refine jr_iastore rfl ks_76 dX12_back_29 g2 ?_
      refine jr_iinc dX12_back_30 rfl (by rw [kic_1]) (by decide) rfl ?_
      refine jr_goto dX12_back_33 (tgt := 12) (by decide) ?_
      exact J.sub (ih _ _ _ h) (jsub_some (jsub_some jsub_nil))
def wX12_back (G : jG) (l : Launch) (d : Nat) (I : jS) (L : jL) (Q : Option Value → jS → jL → Prop) : Prop := if (I 71 41) = 0 then (Q (some (.int (-5 : Int32))) I L) else (∃ e12 : Nat, wX12_back_12 G l d Q e12 (0 : Int32) I L)
set_option maxRecDepth 100000 in
set_option maxHeartbeats 4000000 in
theorem wX12_back_ok {G : jG} {l : Launch} {d : Nat} {Q : Option Value → jS → jL → Prop} {I : jS} {L : jL} (h : wX12_back G l d I L Q) : cM G l mX12_back (d + 1) [.ref 71] I L Q := by
  rw [wX12_back] at h
  show jCall G l yX12_back cX12_back 2 (some .int) (d + 1) 0 0 _ (jKS, I, L, jR0) _
  refine jCall_of (n0 := 1) (ls := [some (.ref 71), none]) (by decide +kernel) rfl (Nat.le_of_ble_eq_true rfl) (jQm_of ?_)
  refine jr_aload_n dX12_back_0 rfl rfl ?_
  refine jv_geti rfl ff_X12_361 ks_71 dX12_back_1 ?_
  refine jr_if_ne dX12_back_4 (tgt := 10) (by decide) (fun c => ?_) (fun c => ?_)
  · rw [if_neg c] at h
    refine jr_iconst dX12_back_10 kic_0 ?_
    refine jr_istore_n dX12_back_11 rfl (by decide) rfl ?_
    obtain ⟨e12, h⟩ := h
    exact J.sub (wX12_back_12_ok  e12 _ _ _ h) (jsub_some (jsub_some jsub_nil))
  · rw [if_pos c] at h
    refine jr_bipush dX12_back_7 kbp_m5 ?_
    exact jr_ireturn dX12_back_9 ⟨Or.inr (Or.inl ⟨rfl, _, rfl⟩), _, _, rfl, h⟩
def wX12_weakMany_4 (G : jG) (l : Launch) (d : Nat) (Q : Option Value → jS → jL → Prop) : Nat → Int32 → Int32 → jS → jL → Prop
  | 0, _, _, _, _ => False
  | n4 + 1, x1, x2, I, L => if (24 : Int32) ≤ x2 then (Q (some (.int x1)) I L) else (vp_in x2 24 ∧ (if (I 76 x2.toNatClampNeg) ≤ 0 then ((wX12_weakMany_4 G l d Q n4) (x1 + (0 : Int32)) (x2 + (1 : Int32)) I L) else ((wX12_weakMany_4 G l d Q n4) (x1 + (1 : Int32)) (x2 + (1 : Int32)) I L)))
set_option maxRecDepth 100000 in
set_option maxHeartbeats 4000000 in
theorem wX12_weakMany_4_ok {G : jG} {l : Launch} {d : Nat} {Q : Option Value → jS → jL → Prop} : ∀ (n : Nat) (x1 : Int32) (x2 : Int32) (I : jS) (L : jL), wX12_weakMany_4 G l d Q n x1 x2 I L → J G l yX12_weakMany cX12_weakMany 3 (d + 1) 0 0 4 [some (.ref 71), some (.int x1), some (.int x2)] [] (jKS, I, L, jR0) (jQm (some .int) Q) := by
  intro n
  induction n with
  | zero => intro x1 x2 I L h; exact h.elim
  | succ n ih =>
    intro x1 x2 I L h
    rw [wX12_weakMany_4] at h
    refine jr_iload_n dX12_weakMany_4 rfl rfl ?_
    refine jr_bipush dX12_weakMany_5 kbp_24 ?_
    refine jr_icmp_ge dX12_weakMany_7 (tgt := 33) (by decide) (fun c => ?_) (fun c => ?_)
    · rw [if_pos c] at h
      refine jr_iload_n dX12_weakMany_33 rfl rfl ?_
      exact jr_ireturn dX12_weakMany_34 ⟨Or.inr (Or.inl ⟨rfl, _, rfl⟩), _, _, rfl, h⟩
    · rw [if_neg c] at h
      refine jr_iload_n dX12_weakMany_10 rfl rfl ?_
      refine jr_aload_n dX12_weakMany_11 rfl rfl ?_
      refine jr_geta ff_X12_24 ks_71 rr_71_7 dX12_weakMany_12 ?_
      refine jr_iload_n dX12_weakMany_15 rfl rfl ?_
      obtain ⟨g1, h⟩ := h
      refine jv_iaload rfl rfl ks_76 dX12_weakMany_16 g1 ?_
      refine jr_if_le dX12_weakMany_17 (tgt := 24) (by decide) (fun c => ?_) (fun c => ?_)
      · rw [if_pos c] at h
        refine jr_iconst dX12_weakMany_24 kic_0 ?_
        refine jr_iadd dX12_weakMany_25 ?_
        refine jr_istore_n dX12_weakMany_26 rfl (by decide) rfl ?_
        refine jr_iinc dX12_weakMany_27 rfl (by rw [kic_1]) (by decide) rfl ?_
        refine jr_goto dX12_weakMany_30 (tgt := 4) (by decide) ?_
        exact J.sub (ih _ _ _ _ h) (jsub_some (jsub_some (jsub_some jsub_nil)))
      · rw [if_neg c] at h
        refine jr_iconst dX12_weakMany_20 kic_1 ?_
        refine jr_goto dX12_weakMany_21 (tgt := 25) (by decide) ?_
        refine jr_iadd dX12_weakMany_25 ?_
        refine jr_istore_n dX12_weakMany_26 rfl (by decide) rfl ?_
        refine jr_iinc dX12_weakMany_27 rfl (by rw [kic_1]) (by decide) rfl ?_
        refine jr_goto dX12_weakMany_30 (tgt := 4) (by decide) ?_
        exact J.sub (ih _ _ _ _ h) (jsub_some (jsub_some (jsub_some jsub_nil)))
def wX12_weakMany (G : jG) (l : Launch) (d : Nat) (I : jS) (L : jL) (Q : Option Value → jS → jL → Prop) : Prop := ∃ e4 : Nat, wX12_weakMany_4 G l d Q e4 (0 : Int32) (0 : Int32) I L
set_option maxRecDepth 100000 in
set_option maxHeartbeats 4000000 in
theorem wX12_weakMany_ok {G : jG} {l : Launch} {d : Nat} {Q : Option Value → jS → jL → Prop} {I : jS} {L : jL} (h : wX12_weakMany G l d I L Q) : cM G l mX12_weakMany (d + 1) [.ref 71] I L Q := by
  rw [wX12_weakMany] at h
  show jCall G l yX12_weakMany cX12_weakMany 3 (some .int) (d + 1) 0 0 _ (jKS, I, L, jR0) _
  refine jCall_of (n0 := 2) (ls := [some (.ref 71), none, none]) (by decide +kernel) rfl (Nat.le_of_ble_eq_true rfl) (jQm_of ?_)
  refine jr_iconst dX12_weakMany_0 kic_0 ?_
  refine jr_istore_n dX12_weakMany_1 rfl (by decide) rfl ?_
  refine jr_iconst dX12_weakMany_2 kic_0 ?_
  refine jr_istore_n dX12_weakMany_3 rfl (by decide) rfl ?_
  obtain ⟨e4, h⟩ := h
  exact J.sub (wX12_weakMany_4_ok  e4 _ _ _ _ h) (jsub_some (jsub_some (jsub_some jsub_nil)))

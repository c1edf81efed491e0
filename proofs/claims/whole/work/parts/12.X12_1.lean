def wX12_one_104 (G : jG) (l : Launch) (d : Nat) (Q : Option Value → jS → jL → Prop) (x1 : Int32) (x2 : Int32) (I : jS) (L : jL) : Prop := if x1 = (40 : Int32) then (Q (some (.int x2)) (u2 I 71 17 ((I 71 17) - (1 : Int32))) L) else (if x1 = (45 : Int32) then (Q (some (.int (-x2))) (u2 I 71 17 ((I 71 17) - (1 : Int32))) L) else (if x2 = 0 then (Q (some (.int (1 : Int32))) (u2 I 71 17 ((I 71 17) - (1 : Int32))) L) else (Q (some (.int (0 : Int32))) (u2 I 71 17 ((I 71 17) - (1 : Int32))) L)))
set_option maxRecDepth 100000 in
set_option maxHeartbeats 4000000 in
theorem wX12_one_104_ok {G : jG} {l : Launch} {d : Nat} {Q : Option Value → jS → jL → Prop} : ∀ (x1 : Int32) (x2 : Int32) (I : jS) (L : jL), wX12_one_104 G l d Q x1 x2 I L → J G l yX12_one cX12_one 5 (d + 1) 0 0 104 [some (.ref 71), some (.int x1), some (.int x2), none, none] [] (jKS, I, L, jR0) (jQm (some .int) Q) := by
  intro x1 x2 I L h
  rw [wX12_one_104] at h
  refine jr_aload_n dX12_one_104 rfl rfl ?_
  refine jr_dup dX12_one_105 rfl ?_
  refine jv_geti rfl ff_X12_195 ks_71 dX12_one_106 ?_
  refine jr_iconst dX12_one_109 kic_1 ?_
  refine jr_isub dX12_one_110 ?_
  refine jr_puti ff_X12_195 ks_71 dX12_one_111 ?_
  refine jr_iload_n dX12_one_114 rfl rfl ?_
  refine jr_bipush dX12_one_115 kbp_40 ?_
  refine jr_icmp_ne dX12_one_117 (tgt := 124) (by decide) (fun c => ?_) (fun c => ?_)
  · rw [if_neg c] at h
    refine jr_iload_n dX12_one_124 rfl rfl ?_
    refine jr_bipush dX12_one_125 kbp_45 ?_
    refine jr_icmp_ne dX12_one_127 (tgt := 135) (by decide) (fun c => ?_) (fun c => ?_)
    · rw [if_neg c] at h
      refine jr_iload_n dX12_one_135 rfl rfl ?_
      refine jr_if_ne dX12_one_136 (tgt := 143) (by decide) (fun c => ?_) (fun c => ?_)
      · rw [if_neg c] at h
        refine jr_iconst dX12_one_143 kic_0 ?_
        exact jr_ireturn dX12_one_144 ⟨Or.inr (Or.inl ⟨rfl, _, rfl⟩), _, _, rfl, h⟩
      · rw [if_pos c] at h
        refine jr_iconst dX12_one_139 kic_1 ?_
        refine jr_goto dX12_one_140 (tgt := 144) (by decide) ?_
        exact jr_ireturn dX12_one_144 ⟨Or.inr (Or.inl ⟨rfl, _, rfl⟩), _, _, rfl, h⟩
    · rw [if_pos c] at h
      refine jr_iload_n dX12_one_130 rfl rfl ?_
      refine jr_ineg dX12_one_131 ?_
      refine jr_goto dX12_one_132 (tgt := 144) (by decide) ?_
      exact jr_ireturn dX12_one_144 ⟨Or.inr (Or.inl ⟨rfl, _, rfl⟩), _, _, rfl, h⟩
  · rw [if_pos c] at h
    refine jr_iload_n dX12_one_120 rfl rfl ?_
    refine jr_goto dX12_one_121 (tgt := 144) (by decide) ?_
    exact jr_ireturn dX12_one_144 ⟨Or.inr (Or.inl ⟨rfl, _, rfl⟩), _, _, rfl, h⟩
def wX12_one_83 (G : jG) (l : Launch) (d : Nat) (Q : Option Value → jS → jL → Prop) (x1 : Int32) (t0 : Int32) (I : jS) (L : jL) : Prop := if x1 = (40 : Int32) then (cI G l mX12_takes d [.ref 71, .int (41 : Int32)] I L (fun r1 I1 L1 => (if r1 = 0 then (cI G l mX12_wrong d [.ref 71] I1 L1 (fun r2 I2 L2 => (Q (some (.int r2)) I2 L2))) else (wX12_one_104 G l d Q x1 t0 I1 L1)))) else (wX12_one_104 G l d Q x1 t0 I L)
set_option maxRecDepth 100000 in
set_option maxHeartbeats 4000000 in
theorem wX12_one_83_ok {G : jG} {l : Launch} {d : Nat} {Q : Option Value → jS → jL → Prop} : ∀ (x1 : Int32) (t0 : Int32) (I : jS) (L : jL), wX12_one_83 G l d Q x1 t0 I L → J G l yX12_one cX12_one 5 (d + 1) 0 0 83 [some (.ref 71), some (.int x1), none, none, none] [.int t0] (jKS, I, L, jR0) (jQm (some .int) Q) := by
  intro x1 t0 I L h
  rw [wX12_one_83] at h
  refine jr_istore_n dX12_one_83 rfl (by decide) rfl ?_
  refine jr_iload_n dX12_one_84 rfl rfl ?_
  refine jr_bipush dX12_one_85 kbp_40 ?_
  refine jr_icmp_ne dX12_one_87 (tgt := 104) (by decide) (fun c => ?_) (fun c => ?_)
  · rw [if_neg c] at h
    exact J.sub (wX12_one_104_ok  _ _ _ _ h) (jsub_some (jsub_some (jsub_some (jsub_none (jsub_none jsub_nil)))))
  · rw [if_pos c] at h
    refine jr_aload_n dX12_one_90 rfl rfl ?_
    refine jr_bipush dX12_one_91 kbp_41 ?_
    refine jr_callV (mc2 := 0) (mc := 0) (ms2 := 0) (ms := 0) vm_X12_180 (av := [.int (41 : Int32)]) (st := []) rfl rfl ks_71 (by decide) rfl (Nat.le_of_ble_eq_true rfl) dX12_one_93 (cI_use (M := (yX12_takes, cX12_takes, 2, some .boolean)) h ?_)
    intro r1 I1 L1 h
    refine jr_if_ne dX12_one_96 (tgt := 104) (by decide) (fun c => ?_) (fun c => ?_)
    · rw [if_neg c] at h
      exact J.sub (wX12_one_104_ok  _ _ _ _ h) (jsub_some (jsub_some (jsub_some (jsub_none (jsub_none jsub_nil)))))
    · rw [if_pos c] at h
      refine jr_aload_n dX12_one_99 rfl rfl ?_
      refine jr_callV (mc2 := 0) (mc := 0) (ms2 := 0) (ms := 0) vm_X12_198 (av := []) (st := []) rfl rfl ks_71 (by decide) rfl (Nat.le_of_ble_eq_true rfl) dX12_one_100 (cI_use (M := (yX12_wrong, cX12_wrong, 1, some .int)) h ?_)
      intro r2 I2 L2 h
      exact jr_ireturn dX12_one_103 ⟨Or.inr (Or.inl ⟨rfl, _, rfl⟩), _, _, rfl, h⟩
def wX12_one_32 (G : jG) (l : Launch) (d : Nat) (Q : Option Value → jS → jL → Prop) (x1 : Int32) (I : jS) (L : jL) : Prop := if (I 71 17) = (6 : Int32) then (cI G l mX12_wrong d [.ref 71] I L (fun r3 I3 L3 => (Q (some (.int r3)) I3 L3))) else (if x1 = (40 : Int32) then (cI G l mX12_either d [.ref 71] (u2 (u2 I 71 17 ((I 71 17) + (1 : Int32))) 71 14 ((I 71 14) + (1 : Int32))) L (fun r2 I2 L2 => (wX12_one_83 G l d Q x1 r2 I2 L2))) else (cI G l mX12_one d [.ref 71] (u2 (u2 I 71 17 ((I 71 17) + (1 : Int32))) 71 14 ((I 71 14) + (1 : Int32))) L (fun r1 I1 L1 => (wX12_one_83 G l d Q x1 r1 I1 L1))))
set_option maxRecDepth 100000 in
set_option maxHeartbeats 4000000 in
theorem wX12_one_32_ok {G : jG} {l : Launch} {d : Nat} {Q : Option Value → jS → jL → Prop} : ∀ (x1 : Int32) (I : jS) (L : jL), wX12_one_32 G l d Q x1 I L → J G l yX12_one cX12_one 5 (d + 1) 0 0 32 [some (.ref 71), some (.int x1), none, none, none] [] (jKS, I, L, jR0) (jQm (some .int) Q) := by
  intro x1 I L h
  rw [wX12_one_32] at h
  refine jr_aload_n dX12_one_32 rfl rfl ?_
  refine jv_geti rfl ff_X12_195 ks_71 dX12_one_33 ?_
  refine jr_bipush dX12_one_36 kbp_6 ?_
  refine jr_icmp_ne dX12_one_38 (tgt := 46) (by decide) (fun c => ?_) (fun c => ?_)
  · rw [if_neg c] at h
    refine jr_aload_n dX12_one_46 rfl rfl ?_
    refine jr_dup dX12_one_47 rfl ?_
    refine jv_geti rfl ff_X12_195 ks_71 dX12_one_48 ?_
    refine jr_iconst dX12_one_51 kic_1 ?_
    refine jr_iadd dX12_one_52 ?_
    refine jr_puti ff_X12_195 ks_71 dX12_one_53 ?_
    refine jr_aload_n dX12_one_56 rfl rfl ?_
    refine jr_dup dX12_one_57 rfl ?_
    refine jv_geti (u2i (by decide)) ff_X12_161 ks_71 dX12_one_58 ?_
    refine jr_iconst dX12_one_61 kic_1 ?_
    refine jr_iadd dX12_one_62 ?_
    refine jr_puti ff_X12_161 ks_71 dX12_one_63 ?_
    refine jr_iload_n dX12_one_66 rfl rfl ?_
    refine jr_bipush dX12_one_67 kbp_40 ?_
    refine jr_icmp_ne dX12_one_69 (tgt := 79) (by decide) (fun c => ?_) (fun c => ?_)
    · rw [if_neg c] at h
      refine jr_aload_n dX12_one_79 rfl rfl ?_
      refine jr_callV (mc2 := 0) (mc := 0) (ms2 := 0) (ms := 0) vm_X12_192 (av := []) (st := []) rfl rfl ks_71 (by decide) rfl (Nat.le_of_ble_eq_true rfl) dX12_one_80 (cI_use (M := (yX12_one, cX12_one, 5, some .int)) h ?_)
      intro r1 I1 L1 h
      exact J.sub (wX12_one_83_ok  _ _ _ _ h) (jsub_some (jsub_some (jsub_none (jsub_none (jsub_none jsub_nil)))))
    · rw [if_pos c] at h
      refine jr_aload_n dX12_one_72 rfl rfl ?_
      refine jr_callV (mc2 := 0) (mc := 0) (ms2 := 0) (ms := 0) vm_X12_201 (av := []) (st := []) rfl rfl ks_71 (by decide) rfl (Nat.le_of_ble_eq_true rfl) dX12_one_73 (cI_use (M := (yX12_either, cX12_either, 3, some .int)) h ?_)
      intro r2 I2 L2 h
      refine jr_goto dX12_one_76 (tgt := 83) (by decide) ?_
      exact J.sub (wX12_one_83_ok  _ _ _ _ h) (jsub_some (jsub_some (jsub_none (jsub_none (jsub_none jsub_nil)))))
  · rw [if_pos c] at h
    refine jr_aload_n dX12_one_41 rfl rfl ?_
    refine jr_callV (mc2 := 0) (mc := 0) (ms2 := 0) (ms := 0) vm_X12_198 (av := []) (st := []) rfl rfl ks_71 (by decide) rfl (Nat.le_of_ble_eq_true rfl) dX12_one_42 (cI_use (M := (yX12_wrong, cX12_wrong, 1, some .int)) h ?_)
    intro r3 I3 L3 h
    exact jr_ireturn dX12_one_45 ⟨Or.inr (Or.inl ⟨rfl, _, rfl⟩), _, _, rfl, h⟩
def wX12_one_229 (G : jG) (l : Launch) (d : Nat) (Q : Option Value → jS → jL → Prop) (x3 : Int32) (x4 : Int32) (I : jS) (L : jL) : Prop := if x4 = 0 then (cI G l mX12_wrong d [.ref 71] I L (fun r1 I1 L1 => (Q (some (.int r1)) I1 L1))) else (Q (some (.int x3)) I L)
set_option maxRecDepth 100000 in
set_option maxHeartbeats 4000000 in
theorem wX12_one_229_ok {G : jG} {l : Launch} {d : Nat} {Q : Option Value → jS → jL → Prop} : ∀ (x3 : Int32) (x4 : Int32) (I : jS) (L : jL), wX12_one_229 G l d Q x3 x4 I L → J G l yX12_one cX12_one 5 (d + 1) 0 0 229 [some (.ref 71), none, none, some (.int x3), some (.int x4)] [] (jKS, I, L, jR0) (jQm (some .int) Q) := by
  intro x3 x4 I L h
  rw [wX12_one_229] at h
  refine jr_iload dX12_one_229 rfl ?_
  refine jr_if_ne dX12_one_231 (tgt := 241) (by decide) (fun c => ?_) (fun c => ?_)
  · rw [if_neg c] at h
    refine jr_iload_n dX12_one_241 rfl rfl ?_
    exact jr_ireturn dX12_one_242 ⟨Or.inr (Or.inl ⟨rfl, _, rfl⟩), _, _, rfl, h⟩
  · rw [if_pos c] at h
    refine jr_aload_n dX12_one_234 rfl rfl ?_
    refine jr_callV (mc2 := 0) (mc := 0) (ms2 := 0) (ms := 0) vm_X12_198 (av := []) (st := []) rfl rfl ks_71 (by decide) rfl (Nat.le_of_ble_eq_true rfl) dX12_one_235 (cI_use (M := (yX12_wrong, cX12_wrong, 1, some .int)) h ?_)
    intro r1 I1 L1 h
    refine jr_goto dX12_one_238 (tgt := 242) (by decide) ?_
    exact jr_ireturn dX12_one_242 ⟨Or.inr (Or.inl ⟨rfl, _, rfl⟩), _, _, rfl, h⟩
def wX12_one_176 (G : jG) (l : Launch) (d : Nat) (Q : Option Value → jS → jL → Prop) : Nat → Int32 → Int32 → jS → jL → Prop
  | 0, _, _, _, _ => False
  | n176 + 1, x3, x4, I, L => if (4 : Int32) ≤ x4 then (wX12_one_229 G l d Q x3 x4 I L) else (cI G l mX12_byteAt d [.ref 71] I L (fun r1 I1 L1 => (if r1 < (48 : Int32) then (wX12_one_229 G l d Q x3 x4 I1 L1) else (cI G l mX12_byteAt d [.ref 71] I1 L1 (fun r2 I2 L2 => (if (57 : Int32) < r2 then (wX12_one_229 G l d Q x3 x4 I2 L2) else (cI G l mX12_byteAt d [.ref 71] I2 L2 (fun r3 I3 L3 => ((wX12_one_176 G l d Q n176) ((((10 : Int32) * x3) + r3) - (48 : Int32)) (x4 + (1 : Int32)) (u2 I3 71 14 ((I3 71 14) + (1 : Int32))) L3)))))))))
set_option maxRecDepth 100000 in
set_option maxHeartbeats 4000000 in
theorem wX12_one_176_ok {G : jG} {l : Launch} {d : Nat} {Q : Option Value → jS → jL → Prop} : ∀ (n : Nat) (x3 : Int32) (x4 : Int32) (I : jS) (L : jL), wX12_one_176 G l d Q n x3 x4 I L → J G l yX12_one cX12_one 5 (d + 1) 0 0 176 [some (.ref 71), none, none, some (.int x3), some (.int x4)] [] (jKS, I, L, jR0) (jQm (some .int) Q) := by
  intro n
  induction n with
  | zero => intro x3 x4 I L h; exact h.elim
  | succ n ih =>
    intro x3 x4 I L h
    rw [wX12_one_176] at h
    refine jr_iload dX12_one_176 rfl ?_
    refine jr_iconst dX12_one_178 kic_4 ?_
    refine jr_icmp_ge dX12_one_179 (tgt := 229) (by decide) (fun c => ?_) (fun c => ?_)
    · rw [if_pos c] at h
      exact J.sub (wX12_one_229_ok  _ _ _ _ h) (jsub_some (jsub_none (jsub_none (jsub_some (jsub_some jsub_nil)))))
    · rw [if_neg c] at h
      refine jr_aload_n dX12_one_182 rfl rfl ?_
      refine jr_callV (mc2 := 0) (mc := 0) (ms2 := 0) (ms := 0) vm_X12_173 (av := []) (st := []) rfl rfl ks_71 (by decide) rfl (Nat.le_of_ble_eq_true rfl) dX12_one_183 (cI_use (M := (yX12_byteAt, cX12_byteAt, 1, some .int)) h ?_)
      intro r1 I1 L1 h
      refine jr_bipush dX12_one_186 kbp_48 ?_
      refine jr_icmp_lt dX12_one_188 (tgt := 229) (by decide) (fun c => ?_) (fun c => ?_)
      · rw [if_pos c] at h
        exact J.sub (wX12_one_229_ok  _ _ _ _ h) (jsub_some (jsub_none (jsub_none (jsub_some (jsub_some jsub_nil)))))
      · rw [if_neg c] at h
        refine jr_aload_n dX12_one_191 rfl rfl ?_
        refine jr_callV (mc2 := 0) (mc := 0) (ms2 := 0) (ms := 0) vm_X12_173 (av := []) (st := []) rfl rfl ks_71 (by decide) rfl (Nat.le_of_ble_eq_true rfl) dX12_one_192 (cI_use (M := (yX12_byteAt, cX12_byteAt, 1, some .int)) h ?_)
        intro r2 I2 L2 h
        refine jr_bipush dX12_one_195 kbp_57 ?_
        refine jr_icmp_gt dX12_one_197 (tgt := 229) (by decide) (fun c => ?_) (fun c => ?_)
        · rw [if_pos c] at h
          exact J.sub (wX12_one_229_ok  _ _ _ _ h) (jsub_some (jsub_none (jsub_none (jsub_some (jsub_some jsub_nil)))))
        · rw [if_neg c] at h
          refine jr_bipush dX12_one_200 kbp_10 ?_
          refine jr_iload_n dX12_one_202 rfl rfl ?_
          refine jr_imul dX12_one_203 ?_
          refine jr_aload_n dX12_one_204 rfl rfl ?_
          refine jr_callV (mc2 := 0) (mc := 0) (ms2 := 0) (ms := 0) vm_X12_173 (av := []) (st := [.int ((10 : Int32) * x3)]) rfl rfl ks_71 (by decide) rfl (Nat.le_of_ble_eq_true rfl) dX12_one_205 (cI_use (M := (yX12_byteAt, cX12_byteAt, 1, some .int)) h ?_)
          intro r3 I3 L3 h
          refine jr_iadd dX12_one_208 ?_
          refine jr_bipush dX12_one_209 kbp_48 ?_
          refine jr_isub dX12_one_211 ?_
          refine jr_istore_n dX12_one_212 rfl (by decide) rfl ?_
          refine jr_iinc dX12_one_213 rfl (by rw [kic_1]) (by decide) rfl ?_
          refine jr_aload_n dX12_one_216 rfl rfl ?_
          refine jr_dup dX12_one_217 rfl ?_
          refine jv_geti rfl ff_X12_161 ks_71 dX12_one_218 ?_
          refine jr_iconst dX12_one_221 kic_1 ?_
          refine jr_iadd dX12_one_222 ?_
          refine jr_puti ff_X12_161 ks_71 dX12_one_223 ?_
          refine jr_goto dX12_one_226 (tgt := 176) (by decide) ?_
          exact J.sub (ih _ _ _ _ h) (jsub_some (jsub_none (jsub_none (jsub_some (jsub_some jsub_nil)))))
def wX12_one (G : jG) (l : Launch) (d : Nat) (I : jS) (L : jL) (Q : Option Value → jS → jL → Prop) : Prop := if (I 71 16) < 0 then (cI G l mX12_byteAt d [.ref 71] I L (fun r1 I1 L1 => (if r1 = (33 : Int32) then (wX12_one_32 G l d Q r1 I1 L1) else (if r1 = (45 : Int32) then (wX12_one_32 G l d Q r1 I1 L1) else (if r1 = (40 : Int32) then (wX12_one_32 G l d Q r1 I1 L1) else (cI G l mX12_nameOf d [.int r1] I1 L1 (fun r2 I2 L2 => (if r2 < 0 then (∃ e176 : Nat, wX12_one_176 G l d Q e176 (0 : Int32) (0 : Int32) I2 L2) else (vp_in r2 6 ∧ (Q (some (.int (I2 79 r2.toNatClampNeg))) (u2 I2 71 14 ((I2 71 14) + (1 : Int32))) L2)))))))))) else (Q (some (.int (0 : Int32))) I L)
set_option maxRecDepth 100000 in
set_option maxHeartbeats 4000000 in
theorem wX12_one_ok {G : jG} {l : Launch} {d : Nat} {Q : Option Value → jS → jL → Prop} {I : jS} {L : jL} (h : wX12_one G l d I L Q) : cM G l mX12_one (d + 1) [.ref 71] I L Q := by
  rw [wX12_one] at h
  show jCall G l yX12_one cX12_one 5 (some .int) (d + 1) 0 0 _ (jKS, I, L, jR0) _
  refine jCall_of (n0 := 4) (ls := [some (.ref 71), none, none, none, none]) (by decide +kernel) rfl (Nat.le_of_ble_eq_true rfl) (jQm_of ?_)
  refine jr_aload_n dX12_one_0 rfl rfl ?_
  refine jv_geti rfl ff_X12_170 ks_71 dX12_one_1 ?_
  refine jr_if_lt dX12_one_4 (tgt := 9) (by decide) (fun c => ?_) (fun c => ?_)
  · rw [if_pos c] at h
    refine jr_aload_n dX12_one_9 rfl rfl ?_
    refine jr_callV (mc2 := 0) (mc := 0) (ms2 := 0) (ms := 0) vm_X12_173 (av := []) (st := []) rfl rfl ks_71 (by decide) rfl (Nat.le_of_ble_eq_true rfl) dX12_one_10 (cI_use (M := (yX12_byteAt, cX12_byteAt, 1, some .int)) h ?_)
    intro r1 I1 L1 h
    refine jr_istore_n dX12_one_13 rfl (by decide) rfl ?_
    refine jr_iload_n dX12_one_14 rfl rfl ?_
    refine jr_bipush dX12_one_15 kbp_33 ?_
    refine jr_icmp_eq dX12_one_17 (tgt := 32) (by decide) (fun c => ?_) (fun c => ?_)
    · rw [if_pos c] at h
      exact J.sub (wX12_one_32_ok  _ _ _ h) (jsub_some (jsub_some (jsub_none (jsub_none (jsub_none jsub_nil)))))
    · rw [if_neg c] at h
      refine jr_iload_n dX12_one_20 rfl rfl ?_
      refine jr_bipush dX12_one_21 kbp_45 ?_
      refine jr_icmp_eq dX12_one_23 (tgt := 32) (by decide) (fun c => ?_) (fun c => ?_)
      · rw [if_pos c] at h
        exact J.sub (wX12_one_32_ok  _ _ _ h) (jsub_some (jsub_some (jsub_none (jsub_none (jsub_none jsub_nil)))))
      · rw [if_neg c] at h
        refine jr_iload_n dX12_one_26 rfl rfl ?_
        refine jr_bipush dX12_one_27 kbp_40 ?_
        refine jr_icmp_ne dX12_one_29 (tgt := 145) (by decide) (fun c => ?_) (fun c => ?_)
        · rw [if_neg c] at h
          refine jr_iload_n dX12_one_145 rfl rfl ?_
          refine jr_callS (mc2 := 0) (mc := 0) (ms2 := 0) (ms := 0) vm_X12_204 (av := [.int r1]) (st := []) rfl rfl (Nat.le_of_ble_eq_true rfl) dX12_one_146 (cI_use (M := (yX12_nameOf, cX12_nameOf, 1, some .int)) h ?_)
          intro r2 I2 L2 h
          refine jr_istore_n dX12_one_149 rfl (by decide) rfl ?_
          refine jr_iload_n dX12_one_150 rfl rfl ?_
          refine jr_if_lt dX12_one_151 (tgt := 171) (by decide) (fun c => ?_) (fun c => ?_)
          · rw [if_pos c] at h
            refine jr_iconst dX12_one_171 kic_0 ?_
            refine jr_istore_n dX12_one_172 rfl (by decide) rfl ?_
            refine jr_iconst dX12_one_173 kic_0 ?_
            refine jr_istore dX12_one_174 (by decide) rfl ?_
            obtain ⟨e176, h⟩ := h
            exact J.sub (wX12_one_176_ok  e176 _ _ _ _ h) (jsub_some (jsub_none (jsub_none (jsub_some (jsub_some jsub_nil)))))
          · rw [if_neg c] at h
            refine jr_aload_n dX12_one_154 rfl rfl ?_
            refine jr_dup dX12_one_155 rfl ?_
            refine jv_geti rfl ff_X12_161 ks_71 dX12_one_156 ?_
            refine jr_iconst dX12_one_159 kic_1 ?_
            refine jr_iadd dX12_one_160 ?_
            refine jr_puti ff_X12_161 ks_71 dX12_one_161 ?_
            refine jr_aload_n dX12_one_164 rfl rfl ?_
            refine jr_geta ff_X12_33 ks_71 rr_71_18 dX12_one_165 ?_
            refine jr_iload_n dX12_one_168 rfl rfl ?_
            obtain ⟨g3, h⟩ := h
            refine jv_iaload (u2n (by decide)) rfl ks_79 dX12_one_169 g3 ?_
            exact jr_ireturn dX12_one_170 ⟨Or.inr (Or.inl ⟨rfl, _, rfl⟩), _, _, rfl, h⟩
        · rw [if_pos c] at h
          exact J.sub (wX12_one_32_ok  _ _ _ h) (jsub_some (jsub_some (jsub_none (jsub_none (jsub_none jsub_nil)))))
  · rw [if_neg c] at h
    refine jr_iconst dX12_one_7 kic_0 ?_
    exact jr_ireturn dX12_one_8 ⟨Or.inr (Or.inl ⟨rfl, _, rfl⟩), _, _, rfl, h⟩
def wX12_workOut_96 (G : jG) (l : Launch) (d : Nat) (k33 : Int32 → Int32 → Int32 → jS → jL → Prop) (Q : Option Value → jS → jL → Prop) (x3 : Int32) (x4 : Int32) (I : jS) (L : jL) : Prop := cI G l mX12_takes d [.ref 71, .int (59 : Int32)] I L (fun r1 I1 L1 => (k33 x3 x4 r1 I1 L1))
set_option maxRecDepth 100000 in
set_option maxHeartbeats 4000000 in
theorem wX12_workOut_96_ok {G : jG} {l : Launch} {d : Nat} {Q : Option Value → jS → jL → Prop} {k33 : Int32 → Int32 → Int32 → jS → jL → Prop} (hk33 : ∀ (x3 : Int32) (x4 : Int32) (x5 : Int32) (I : jS) (L : jL), k33 x3 x4 x5 I L → J G l yX12_workOut cX12_workOut 8 (d + 1) 0 0 33 [some (.ref 71), none, none, some (.int x3), some (.int x4), some (.int x5), none, none] [] (jKS, I, L, jR0) (jQm (some .int) Q)) : ∀ (x3 : Int32) (x4 : Int32) (I : jS) (L : jL), wX12_workOut_96 G l d k33 Q x3 x4 I L → J G l yX12_workOut cX12_workOut 8 (d + 1) 0 0 96 [some (.ref 71), none, none, some (.int x3), some (.int x4), none, none, none] [] (jKS, I, L, jR0) (jQm (some .int) Q) := by
  intro x3 x4 I L h
  rw [wX12_workOut_96] at h
  refine jr_aload_n dX12_workOut_96 rfl rfl ?_
  refine jr_bipush dX12_workOut_97 kbp_59 ?_
  refine jr_callV (mc2 := 0) (mc := 0) (ms2 := 0) (ms := 0) vm_X12_180 (av := [.int (59 : Int32)]) (st := []) rfl rfl ks_71 (by decide) rfl (Nat.le_of_ble_eq_true rfl) dX12_workOut_99 (cI_use (M := (yX12_takes, cX12_takes, 2, some .boolean)) h ?_)
  intro r1 I1 L1 h
  refine jr_istore dX12_workOut_102 (by decide) rfl ?_
  refine jr_goto dX12_workOut_104 (tgt := 33) (by decide) ?_
  exact J.sub (hk33 _ _ _ _ _ h) (jsub_some (jsub_none (jsub_none (jsub_some (jsub_some (jsub_some (jsub_none (jsub_none jsub_nil))))))))
def wX12_workOut_74 (G : jG) (l : Launch) (d : Nat) (k33 : Int32 → Int32 → Int32 → jS → jL → Prop) (Q : Option Value → jS → jL → Prop) (x3 : Int32) (x4 : Int32) (x6 : Int32) (x7 : Int32) (I : jS) (L : jL) : Prop := if 0 ≤ (I 71 16) then (wX12_workOut_96 G l d k33 Q x3 x4 I L) else (if x7 = 0 then (wX12_workOut_96 G l d k33 Q x3 x4 I L) else (if x3 = 0 then (wX12_workOut_96 G l d k33 Q (1 : Int32) x6 I L) else (wX12_workOut_96 G l d k33 Q x3 x4 I L)))
set_option maxRecDepth 100000 in
set_option maxHeartbeats 4000000 in
theorem wX12_workOut_74_ok {G : jG} {l : Launch} {d : Nat} {Q : Option Value → jS → jL → Prop} {k33 : Int32 → Int32 → Int32 → jS → jL → Prop} (hk33 : ∀ (x3 : Int32) (x4 : Int32) (x5 : Int32) (I : jS) (L : jL), k33 x3 x4 x5 I L → J G l yX12_workOut cX12_workOut 8 (d + 1) 0 0 33 [some (.ref 71), none, none, some (.int x3), some (.int x4), some (.int x5), none, none] [] (jKS, I, L, jR0) (jQm (some .int) Q)) : ∀ (x3 : Int32) (x4 : Int32) (x6 : Int32) (x7 : Int32) (I : jS) (L : jL), wX12_workOut_74 G l d k33 Q x3 x4 x6 x7 I L → J G l yX12_workOut cX12_workOut 8 (d + 1) 0 0 74 [some (.ref 71), none, none, some (.int x3), some (.int x4), none, some (.int x6), some (.int x7)] [] (jKS, I, L, jR0) (jQm (some .int) Q) := by
  intro x3 x4 x6 x7 I L h
  rw [wX12_workOut_74] at h
  refine jr_aload_n dX12_workOut_74 rfl rfl ?_
  refine jv_geti rfl ff_X12_170 ks_71 dX12_workOut_75 ?_
  refine jr_if_ge dX12_workOut_78 (tgt := 96) (by decide) (fun c => ?_) (fun c => ?_)
  · rw [if_pos c] at h
    exact J.sub (wX12_workOut_96_ok  hk33 _ _ _ _ h) (jsub_some (jsub_none (jsub_none (jsub_some (jsub_some (jsub_none (jsub_none (jsub_none jsub_nil))))))))
  · rw [if_neg c] at h
    refine jr_iload dX12_workOut_81 rfl ?_
    refine jr_if_eq dX12_workOut_83 (tgt := 96) (by decide) (fun c => ?_) (fun c => ?_)
    · rw [if_pos c] at h
      exact J.sub (wX12_workOut_96_ok  hk33 _ _ _ _ h) (jsub_some (jsub_none (jsub_none (jsub_some (jsub_some (jsub_none (jsub_none (jsub_none jsub_nil))))))))
    · rw [if_neg c] at h
      refine jr_iload_n dX12_workOut_86 rfl rfl ?_
      refine jr_if_ne dX12_workOut_87 (tgt := 96) (by decide) (fun c => ?_) (fun c => ?_)
      · rw [if_neg c] at h
        exact J.sub (wX12_workOut_96_ok  hk33 _ _ _ _ h) (jsub_some (jsub_none (jsub_none (jsub_some (jsub_some (jsub_none (jsub_none (jsub_none jsub_nil))))))))
      · rw [if_pos c] at h
        refine jr_iconst dX12_workOut_90 kic_1 ?_
        refine jr_istore_n dX12_workOut_91 rfl (by decide) rfl ?_
        refine jr_iload dX12_workOut_92 rfl ?_
        refine jr_istore dX12_workOut_94 (by decide) rfl ?_
        exact J.sub (wX12_workOut_96_ok  hk33 _ _ _ _ h) (jsub_some (jsub_none (jsub_none (jsub_some (jsub_some (jsub_none (jsub_none (jsub_none jsub_nil))))))))
def wX12_workOut_66 (G : jG) (l : Launch) (d : Nat) (k33 : Int32 → Int32 → Int32 → jS → jL → Prop) (Q : Option Value → jS → jL → Prop) (x3 : Int32) (x4 : Int32) (t0 : Int32) (I : jS) (L : jL) : Prop := cI G l mX12_either d [.ref 71] I L (fun r1 I1 L1 => (wX12_workOut_74 G l d k33 Q x3 x4 r1 t0 I1 L1))
set_option maxRecDepth 100000 in
set_option maxHeartbeats 4000000 in
theorem wX12_workOut_66_ok {G : jG} {l : Launch} {d : Nat} {Q : Option Value → jS → jL → Prop} {k33 : Int32 → Int32 → Int32 → jS → jL → Prop} (hk33 : ∀ (x3 : Int32) (x4 : Int32) (x5 : Int32) (I : jS) (L : jL), k33 x3 x4 x5 I L → J G l yX12_workOut cX12_workOut 8 (d + 1) 0 0 33 [some (.ref 71), none, none, some (.int x3), some (.int x4), some (.int x5), none, none] [] (jKS, I, L, jR0) (jQm (some .int) Q)) : ∀ (x3 : Int32) (x4 : Int32) (t0 : Int32) (I : jS) (L : jL), wX12_workOut_66 G l d k33 Q x3 x4 t0 I L → J G l yX12_workOut cX12_workOut 8 (d + 1) 0 0 66 [some (.ref 71), none, none, some (.int x3), some (.int x4), none, none, none] [.int t0] (jKS, I, L, jR0) (jQm (some .int) Q) := by
  intro x3 x4 t0 I L h
  rw [wX12_workOut_66] at h
  refine jr_istore dX12_workOut_66 (by decide) rfl ?_
  refine jr_aload_n dX12_workOut_68 rfl rfl ?_
  refine jr_callV (mc2 := 0) (mc := 0) (ms2 := 0) (ms := 0) vm_X12_201 (av := []) (st := []) rfl rfl ks_71 (by decide) rfl (Nat.le_of_ble_eq_true rfl) dX12_workOut_69 (cI_use (M := (yX12_either, cX12_either, 3, some .int)) h ?_)
  intro r1 I1 L1 h
  refine jr_istore dX12_workOut_72 (by decide) rfl ?_
  exact J.sub (wX12_workOut_74_ok  hk33 _ _ _ _ _ _ h) (jsub_some (jsub_none (jsub_none (jsub_some (jsub_some (jsub_none (jsub_some (jsub_some jsub_nil))))))))
def wX12_workOut_33 (G : jG) (l : Launch) (d : Nat) (Q : Option Value → jS → jL → Prop) : Nat → Int32 → Int32 → Int32 → jS → jL → Prop
  | 0, _, _, _, _, _ => False
  | n33 + 1, x3, x4, x5, I, L => if x5 = 0 then (if 0 ≤ (I 71 16) then (Q (some (.int x4)) I L) else (if (I 71 15) ≤ (I 71 14) then (Q (some (.int x4)) I L) else (cI G l mX12_wrong d [.ref 71] I L (fun r1 I1 L1 => (Q (some (.int r1)) I1 L1))))) else (cI G l mX12_either d [.ref 71] I L (fun r2 I2 L2 => (cI G l mX12_takes d [.ref 71, .int (63 : Int32)] I2 L2 (fun r3 I3 L3 => (if r3 = 0 then (wX12_workOut_74 G l d (fun z0 z1 z2 I L => wX12_workOut_33 G l d Q n33 z0 z1 z2 I L) Q x3 x4 r2 (1 : Int32) I3 L3) else (if r2 = 0 then (wX12_workOut_66 G l d (fun z0 z1 z2 I L => wX12_workOut_33 G l d Q n33 z0 z1 z2 I L) Q x3 x4 (0 : Int32) I3 L3) else (wX12_workOut_66 G l d (fun z0 z1 z2 I L => wX12_workOut_33 G l d Q n33 z0 z1 z2 I L) Q x3 x4 (1 : Int32) I3 L3)))))))
set_option maxRecDepth 100000 in
set_option maxHeartbeats 4000000 in
theorem wX12_workOut_33_ok {G : jG} {l : Launch} {d : Nat} {Q : Option Value → jS → jL → Prop} : ∀ (n : Nat) (x3 : Int32) (x4 : Int32) (x5 : Int32) (I : jS) (L : jL), wX12_workOut_33 G l d Q n x3 x4 x5 I L → J G l yX12_workOut cX12_workOut 8 (d + 1) 0 0 33 [some (.ref 71), none, none, some (.int x3), some (.int x4), some (.int x5), none, none] [] (jKS, I, L, jR0) (jQm (some .int) Q) := by
  intro n
  induction n with
  | zero => intro x3 x4 x5 I L h; exact h.elim
  | succ n ih =>
    intro x3 x4 x5 I L h
    rw [wX12_workOut_33] at h
    refine jr_iload dX12_workOut_33 rfl ?_
    refine jr_if_eq dX12_workOut_35 (tgt := 107) (by decide) (fun c => ?_) (fun c => ?_)
    · rw [if_pos c] at h
      refine jr_aload_n dX12_workOut_107 rfl rfl ?_
      refine jv_geti rfl ff_X12_170 ks_71 dX12_workOut_108 ?_
      refine jr_if_ge dX12_workOut_111 (tgt := 130) (by decide) (fun c => ?_) (fun c => ?_)
      · rw [if_pos c] at h
        refine jr_iload dX12_workOut_130 rfl ?_
        exact jr_ireturn dX12_workOut_132 ⟨Or.inr (Or.inl ⟨rfl, _, rfl⟩), _, _, rfl, h⟩
      · rw [if_neg c] at h
        refine jr_aload_n dX12_workOut_114 rfl rfl ?_
        refine jv_geti rfl ff_X12_161 ks_71 dX12_workOut_115 ?_
        refine jr_aload_n dX12_workOut_118 rfl rfl ?_
        refine jv_geti rfl ff_X12_164 ks_71 dX12_workOut_119 ?_
        refine jr_icmp_ge dX12_workOut_122 (tgt := 130) (by decide) (fun c => ?_) (fun c => ?_)
        · rw [if_pos c] at h
          refine jr_iload dX12_workOut_130 rfl ?_
          exact jr_ireturn dX12_workOut_132 ⟨Or.inr (Or.inl ⟨rfl, _, rfl⟩), _, _, rfl, h⟩
        · rw [if_neg c] at h
          refine jr_aload_n dX12_workOut_125 rfl rfl ?_
          refine jr_callV (mc2 := 0) (mc := 0) (ms2 := 0) (ms := 0) vm_X12_198 (av := []) (st := []) rfl rfl ks_71 (by decide) rfl (Nat.le_of_ble_eq_true rfl) dX12_workOut_126 (cI_use (M := (yX12_wrong, cX12_wrong, 1, some .int)) h ?_)
          intro r1 I1 L1 h
          exact jr_ireturn dX12_workOut_129 ⟨Or.inr (Or.inl ⟨rfl, _, rfl⟩), _, _, rfl, h⟩
    · rw [if_neg c] at h
      refine jr_aload_n dX12_workOut_38 rfl rfl ?_
      refine jr_callV (mc2 := 0) (mc := 0) (ms2 := 0) (ms := 0) vm_X12_201 (av := []) (st := []) rfl rfl ks_71 (by decide) rfl (Nat.le_of_ble_eq_true rfl) dX12_workOut_39 (cI_use (M := (yX12_either, cX12_either, 3, some .int)) h ?_)
      intro r2 I2 L2 h
      refine jr_istore dX12_workOut_42 (by decide) rfl ?_
      refine jr_iconst dX12_workOut_44 kic_1 ?_
      refine jr_istore dX12_workOut_45 (by decide) rfl ?_
      refine jr_aload_n dX12_workOut_47 rfl rfl ?_
      refine jr_bipush dX12_workOut_48 kbp_63 ?_
      refine jr_callV (mc2 := 0) (mc := 0) (ms2 := 0) (ms := 0) vm_X12_180 (av := [.int (63 : Int32)]) (st := []) rfl rfl ks_71 (by decide) rfl (Nat.le_of_ble_eq_true rfl) dX12_workOut_50 (cI_use (M := (yX12_takes, cX12_takes, 2, some .boolean)) h ?_)
      intro r3 I3 L3 h
      refine jr_if_eq dX12_workOut_53 (tgt := 74) (by decide) (fun c => ?_) (fun c => ?_)
      · rw [if_pos c] at h
        exact J.sub (wX12_workOut_74_ok  ih _ _ _ _ _ _ h) (jsub_some (jsub_none (jsub_none (jsub_some (jsub_some (jsub_none (jsub_some (jsub_some jsub_nil))))))))
      · rw [if_neg c] at h
        refine jr_iload dX12_workOut_56 rfl ?_
        refine jr_if_eq dX12_workOut_58 (tgt := 65) (by decide) (fun c => ?_) (fun c => ?_)
        · rw [if_pos c] at h
          refine jr_iconst dX12_workOut_65 kic_0 ?_
          exact J.sub (wX12_workOut_66_ok  ih _ _ _ _ _ h) (jsub_some (jsub_none (jsub_none (jsub_some (jsub_some (jsub_none (jsub_none (jsub_none jsub_nil))))))))
        · rw [if_neg c] at h
          refine jr_iconst dX12_workOut_61 kic_1 ?_
          refine jr_goto dX12_workOut_62 (tgt := 66) (by decide) ?_
          exact J.sub (wX12_workOut_66_ok  ih _ _ _ _ _ h) (jsub_some (jsub_none (jsub_none (jsub_some (jsub_some (jsub_none (jsub_none (jsub_none jsub_nil))))))))
def wX12_workOut (G : jG) (l : Launch) (d : Nat) (x1 : Int32) (x2 : Int32) (I : jS) (L : jL) (Q : Option Value → jS → jL → Prop) : Prop := ∃ e33 : Nat, wX12_workOut_33 G l d Q e33 (0 : Int32) (0 : Int32) (1 : Int32) (u2 (u2 (u2 (u2 (u2 I 71 13 x1) 71 14 (0 : Int32)) 71 15 x2) 71 16 (-1 : Int32)) 71 17 (0 : Int32)) L
set_option maxRecDepth 100000 in
set_option maxHeartbeats 4000000 in
theorem wX12_workOut_ok {G : jG} {l : Launch} {d : Nat} {Q : Option Value → jS → jL → Prop} {x1 : Int32} {x2 : Int32} {I : jS} {L : jL} (h : wX12_workOut G l d x1 x2 I L Q) : cM G l mX12_workOut (d + 1) [.ref 71, .int x1, .int x2] I L Q := by
  rw [wX12_workOut] at h
  show jCall G l yX12_workOut cX12_workOut 8 (some .int) (d + 1) 0 0 _ (jKS, I, L, jR0) _
  refine jCall_of (n0 := 5) (ls := [some (.ref 71), some (.int x1), some (.int x2), none, none, none, none, none]) (by decide +kernel) rfl (Nat.le_of_ble_eq_true rfl) (jQm_of ?_)
  refine jr_aload_n dX12_workOut_0 rfl rfl ?_
  refine jr_iload_n dX12_workOut_1 rfl rfl ?_
  refine jr_puti ff_X12_167 ks_71 dX12_workOut_2 ?_
  refine jr_aload_n dX12_workOut_5 rfl rfl ?_
  refine jr_iconst dX12_workOut_6 kic_0 ?_
  refine jr_puti ff_X12_161 ks_71 dX12_workOut_7 ?_
  refine jr_aload_n dX12_workOut_10 rfl rfl ?_
  refine jr_iload_n dX12_workOut_11 rfl rfl ?_
  refine jr_puti ff_X12_164 ks_71 dX12_workOut_12 ?_
  refine jr_aload_n dX12_workOut_15 rfl rfl ?_
  refine jr_iconst dX12_workOut_16 kic_m1 ?_
  refine jr_puti ff_X12_170 ks_71 dX12_workOut_17 ?_
  refine jr_aload_n dX12_workOut_20 rfl rfl ?_
  refine jr_iconst dX12_workOut_21 kic_0 ?_
  refine jr_puti ff_X12_195 ks_71 dX12_workOut_22 ?_
  refine jr_iconst dX12_workOut_25 kic_0 ?_
  refine jr_istore_n dX12_workOut_26 rfl (by decide) rfl ?_
  refine jr_iconst dX12_workOut_27 kic_0 ?_
  refine jr_istore dX12_workOut_28 (by decide) rfl ?_
  refine jr_iconst dX12_workOut_30 kic_1 ?_
  refine jr_istore dX12_workOut_31 (by decide) rfl ?_
  obtain ⟨e33, h⟩ := h
  exact J.sub (wX12_workOut_33_ok  e33 _ _ _ _ _ h) (jsub_some (jsub_none (jsub_none (jsub_some (jsub_some (jsub_some (jsub_none (jsub_none jsub_nil))))))))
def wX12_law_37 (G : jG) (l : Launch) (d : Nat) (Q : Option Value → jS → jL → Prop) : Nat → Int32 → Int32 → jS → jL → Prop
  | 0, _, _, _, _ => False
  | n37 + 1, x2, x3, I, L => if x2 ≤ x3 then (Q (some (.int (1 : Int32))) (u2 I 71 12 x2) L) else (vp_in x3 120 ∧ ((wX12_law_37 G l d Q n37) x2 (x3 + (1 : Int32)) (u2 I 78 x3.toNatClampNeg (I 77 x3.toNatClampNeg)) L))
set_option maxRecDepth 100000 in
set_option maxHeartbeats 4000000 in
theorem wX12_law_37_ok {G : jG} {l : Launch} {d : Nat} {Q : Option Value → jS → jL → Prop} : ∀ (n : Nat) (x2 : Int32) (x3 : Int32) (I : jS) (L : jL), wX12_law_37 G l d Q n x2 x3 I L → J G l yX12_law cX12_law 4 (d + 1) 0 0 37 [some (.ref 71), none, some (.int x2), some (.int x3)] [] (jKS, I, L, jR0) (jQm (some .int) Q) := by
  intro n
  induction n with
  | zero => intro x2 x3 I L h; exact h.elim
  | succ n ih =>
    intro x2 x3 I L h
    rw [wX12_law_37] at h
    refine jr_iload_n dX12_law_37 rfl rfl ?_
    refine jr_iload_n dX12_law_38 rfl rfl ?_
    refine jr_icmp_ge dX12_law_39 (tgt := 60) (by decide) (fun c => ?_) (fun c => ?_)
    · rw [if_pos c] at h
      refine jr_aload_n dX12_law_60 rfl rfl ?_
      refine jr_iload_n dX12_law_61 rfl rfl ?_
      refine jr_puti ff_X12_81 ks_71 dX12_law_62 ?_
      refine jr_iconst dX12_law_65 kic_1 ?_
      exact jr_ireturn dX12_law_66 ⟨Or.inr (Or.inl ⟨rfl, _, rfl⟩), _, _, rfl, h⟩
    · rw [if_neg c] at h
      refine jr_aload_n dX12_law_42 rfl rfl ?_
      refine jr_geta ff_X12_30 ks_71 rr_71_11 dX12_law_43 ?_
      refine jr_iload_n dX12_law_46 rfl rfl ?_
      refine jr_aload_n dX12_law_47 rfl rfl ?_
      refine jr_geta ff_X12_27 ks_71 rr_71_9 dX12_law_48 ?_
      refine jr_iload_n dX12_law_51 rfl rfl ?_
      obtain ⟨g1, h⟩ := h
      refine jv_iaload rfl rfl ks_77 dX12_law_52 g1 ?_
      refine jr_iastore rfl ks_78 dX12_law_53 g1 ?_
      refine jr_iinc dX12_law_54 rfl (by rw [kic_1]) (by decide) rfl ?_
      refine jr_goto dX12_law_57 (tgt := 37) (by decide) ?_
      exact J.sub (ih _ _ _ _ h) (jsub_some (jsub_none (jsub_some (jsub_some jsub_nil))))
def wX12_law (G : jG) (l : Launch) (d : Nat) (I : jS) (L : jL) (Q : Option Value → jS → jL → Prop) : Prop := cI G l mX12_workOut d [.ref 71, .int (-1 : Int32), .int (I 71 10)] I L (fun r1 I1 L1 => (if (I1 71 16) < 0 then (∃ e37 : Nat, wX12_law_37 G l d Q e37 (I1 71 10) (0 : Int32) (u2 I1 71 10 (0 : Int32)) L1) else (Q (some (.int ((-100 : Int32) - (I1 71 16)))) (u2 I1 71 10 (0 : Int32)) L1)))
set_option maxRecDepth 100000 in
set_option maxHeartbeats 4000000 in
theorem wX12_law_ok {G : jG} {l : Launch} {d : Nat} {Q : Option Value → jS → jL → Prop} {I : jS} {L : jL} (h : wX12_law G l d I L Q) : cM G l mX12_law (d + 1) [.ref 71] I L Q := by
  rw [wX12_law] at h
  show jCall G l yX12_law cX12_law 4 (some .int) (d + 1) 0 0 _ (jKS, I, L, jR0) _
  refine jCall_of (n0 := 3) (ls := [some (.ref 71), none, none, none]) (by decide +kernel) rfl (Nat.le_of_ble_eq_true rfl) (jQm_of ?_)
  refine jr_aload_n dX12_law_0 rfl rfl ?_
  refine jr_iconst dX12_law_1 kic_m1 ?_
  refine jr_aload_n dX12_law_2 rfl rfl ?_
  refine jv_geti rfl ff_X12_158 ks_71 dX12_law_3 ?_
  refine jr_callV (mc2 := 0) (mc := 0) (ms2 := 0) (ms := 0) vm_X12_207 (av := [.int (-1 : Int32), .int (I 71 10)]) (st := []) rfl rfl ks_71 (by decide) rfl (Nat.le_of_ble_eq_true rfl) dX12_law_6 (cI_use (M := (yX12_workOut, cX12_workOut, 8, some .int)) h ?_)
  intro r1 I1 L1 h
  refine jr_istore_n dX12_law_9 rfl (by decide) rfl ?_
  refine jr_aload_n dX12_law_10 rfl rfl ?_
  refine jv_geti rfl ff_X12_158 ks_71 dX12_law_11 ?_
  refine jr_istore_n dX12_law_14 rfl (by decide) rfl ?_
  refine jr_aload_n dX12_law_15 rfl rfl ?_
  refine jr_iconst dX12_law_16 kic_0 ?_
  refine jr_puti ff_X12_158 ks_71 dX12_law_17 ?_
  refine jr_aload_n dX12_law_20 rfl rfl ?_
  refine jv_geti (u2i (by decide)) ff_X12_170 ks_71 dX12_law_21 ?_
  refine jr_if_lt dX12_law_24 (tgt := 35) (by decide) (fun c => ?_) (fun c => ?_)
  · rw [if_pos c] at h
    refine jr_iconst dX12_law_35 kic_0 ?_
    refine jr_istore_n dX12_law_36 rfl (by decide) rfl ?_
    obtain ⟨e37, h⟩ := h
    exact J.sub (wX12_law_37_ok  e37 _ _ _ _ h) (jsub_some (jsub_none (jsub_some (jsub_some jsub_nil))))
  · rw [if_neg c] at h
    refine jr_bipush dX12_law_27 kbp_m100 ?_
    refine jr_aload_n dX12_law_29 rfl rfl ?_
    refine jv_geti (u2i (by decide)) ff_X12_170 ks_71 dX12_law_30 ?_
    refine jr_isub dX12_law_33 ?_
    exact jr_ireturn dX12_law_34 ⟨Or.inr (Or.inl ⟨rfl, _, rfl⟩), _, _, rfl, h⟩
def wX12_begins1_2 (G : jG) (l : Launch) (d : Nat) (Q : Option Value → jS → jL → Prop) : Nat → Int32 → jS → jL → Prop
  | 0, _, _, _ => False
  | n2 + 1, x1, I, L => if (24 : Int32) ≤ x1 then (Q none (u2 I 71 20 (I 71 8)) L) else (vp_in x1 24 ∧ ((wX12_begins1_2 G l d Q n2) (x1 + (1 : Int32)) (u2 I 80 x1.toNatClampNeg (I 76 x1.toNatClampNeg)) L))
set_option maxRecDepth 100000 in
set_option maxHeartbeats 4000000 in
theorem wX12_begins1_2_ok {G : jG} {l : Launch} {d : Nat} {Q : Option Value → jS → jL → Prop} : ∀ (n : Nat) (x1 : Int32) (I : jS) (L : jL), wX12_begins1_2 G l d Q n x1 I L → J G l yX12_begins1 cX12_begins1 2 (d + 1) 0 0 2 [some (.ref 71), some (.int x1)] [] (jKS, I, L, jR0) (jQm (none) Q) := by
  intro n
  induction n with
  | zero => intro x1 I L h; exact h.elim
  | succ n ih =>
    intro x1 I L h
    rw [wX12_begins1_2] at h
    refine jr_iload_n dX12_begins1_2 rfl rfl ?_
    refine jr_bipush dX12_begins1_3 kbp_24 ?_
    refine jr_icmp_ge dX12_begins1_5 (tgt := 26) (by decide) (fun c => ?_) (fun c => ?_)
    · rw [if_pos c] at h
      refine jr_aload_n dX12_begins1_26 rfl rfl ?_
      refine jr_aload_n dX12_begins1_27 rfl rfl ?_
      refine jv_geti rfl ff_X12_153 ks_71 dX12_begins1_28 ?_
      refine jr_puti ff_X12_210 ks_71 dX12_begins1_31 ?_
      exact jr_return dX12_begins1_34 ⟨Or.inl ⟨rfl, rfl⟩, _, _, rfl, h⟩
    · rw [if_neg c] at h
      refine jr_aload_n dX12_begins1_8 rfl rfl ?_
      refine jr_geta ff_X12_36 ks_71 rr_71_19 dX12_begins1_9 ?_
      refine jr_iload_n dX12_begins1_12 rfl rfl ?_
      refine jr_aload_n dX12_begins1_13 rfl rfl ?_
      refine jr_geta ff_X12_24 ks_71 rr_71_7 dX12_begins1_14 ?_
      refine jr_iload_n dX12_begins1_17 rfl rfl ?_
      obtain ⟨g1, h⟩ := h
      refine jv_iaload rfl rfl ks_76 dX12_begins1_18 g1 ?_
      refine jr_iastore rfl ks_80 dX12_begins1_19 g1 ?_
      refine jr_iinc dX12_begins1_20 rfl (by rw [kic_1]) (by decide) rfl ?_
      refine jr_goto dX12_begins1_23 (tgt := 2) (by decide) ?_
      exact J.sub (ih _ _ _ h) (jsub_some (jsub_some jsub_nil))
def wX12_begins1 (G : jG) (l : Launch) (d : Nat) (I : jS) (L : jL) (Q : Option Value → jS → jL → Prop) : Prop := ∃ e2 : Nat, wX12_begins1_2 G l d Q e2 (0 : Int32) I L
set_option maxRecDepth 100000 in
set_option maxHeartbeats 4000000 in
theorem wX12_begins1_ok {G : jG} {l : Launch} {d : Nat} {Q : Option Value → jS → jL → Prop} {I : jS} {L : jL} (h : wX12_begins1 G l d I L Q) : cM G l mX12_begins1 (d + 1) [.ref 71] I L Q := by
  rw [wX12_begins1] at h
  show jCall G l yX12_begins1 cX12_begins1 2 (none) (d + 1) 0 0 _ (jKS, I, L, jR0) _
  refine jCall_of (n0 := 1) (ls := [some (.ref 71), none]) (by decide +kernel) rfl (Nat.le_of_ble_eq_true rfl) (jQm_of ?_)
  refine jr_iconst dX12_begins1_0 kic_0 ?_
  refine jr_istore_n dX12_begins1_1 rfl (by decide) rfl ?_
  obtain ⟨e2, h⟩ := h
  exact J.sub (wX12_begins1_2_ok  e2 _ _ _ h) (jsub_some (jsub_some jsub_nil))
def wX12_bearsAt_59 (G : jG) (l : Launch) (d : Nat) (Q : Option Value → jS → jL → Prop) (x1 : Int32) (x2 : Int32) (t0 : Int32) (I : jS) (L : jL) : Prop := vp_in x1 24 ∧ (cI G l mX12_less d [.int (I 71 20), .int (I 72 124)] I L (fun r2 I2 L2 => (cI G l mX12_less d [.int x2, .int (((I 80 x1.toNatClampNeg) + t0) + r2)] I2 L2 (fun r3 I3 L3 => (Q (some (.int r3)) I3 L3)))))
set_option maxRecDepth 100000 in
set_option maxHeartbeats 4000000 in
theorem wX12_bearsAt_59_ok {G : jG} {l : Launch} {d : Nat} {Q : Option Value → jS → jL → Prop} : ∀ (x1 : Int32) (x2 : Int32) (t0 : Int32) (I : jS) (L : jL), wX12_bearsAt_59 G l d Q x1 x2 t0 I L → J G l yX12_bearsAt cX12_bearsAt 4 (d + 1) 0 0 59 [some (.ref 71), some (.int x1), some (.int x2), none] [.int t0] (jKS, I, L, jR0) (jQm (some .int) Q) := by
  intro x1 x2 t0 I L h
  rw [wX12_bearsAt_59] at h
  refine jr_istore_n dX12_bearsAt_59 rfl (by decide) rfl ?_
  refine jr_iload_n dX12_bearsAt_60 rfl rfl ?_
  refine jr_aload_n dX12_bearsAt_61 rfl rfl ?_
  refine jr_geta ff_X12_36 ks_71 rr_71_19 dX12_bearsAt_62 ?_
  refine jr_iload_n dX12_bearsAt_65 rfl rfl ?_
  obtain ⟨g1, h⟩ := h
  refine jv_iaload rfl rfl ks_80 dX12_bearsAt_66 g1 ?_
  refine jr_iload_n dX12_bearsAt_67 rfl rfl ?_
  refine jr_iadd dX12_bearsAt_68 ?_
  refine jr_aload_n dX12_bearsAt_69 rfl rfl ?_
  refine jv_geti rfl ff_X12_210 ks_71 dX12_bearsAt_70 ?_
  refine jr_aload_n dX12_bearsAt_73 rfl rfl ?_
  refine jr_geta ff_X12_11 ks_71 rr_71_0 dX12_bearsAt_74 ?_
  refine jr_bipush dX12_bearsAt_77 kbp_124 ?_
  refine jv_iaload rfl nn_124 ks_72 dX12_bearsAt_79 vin_124_125 ?_
  refine jr_callS (mc2 := 0) (mc := 0) (ms2 := 0) (ms := 0) vm_X12_222 (av := [.int (I 71 20), .int (I 72 124)]) (st := [.int ((I 80 x1.toNatClampNeg) + t0), .int x2]) rfl rfl (Nat.le_of_ble_eq_true rfl) dX12_bearsAt_80 (cI_use (M := (yX12_less, cX12_less, 2, some .int)) h ?_)
  intro r2 I2 L2 h
  refine jr_iadd dX12_bearsAt_83 ?_
  refine jr_callS (mc2 := 0) (mc := 0) (ms2 := 0) (ms := 0) vm_X12_222 (av := [.int x2, .int (((I 80 x1.toNatClampNeg) + t0) + r2)]) (st := []) rfl rfl (Nat.le_of_ble_eq_true rfl) dX12_bearsAt_84 (cI_use (M := (yX12_less, cX12_less, 2, some .int)) h ?_)
  intro r3 I3 L3 h
  exact jr_ireturn dX12_bearsAt_87 ⟨Or.inr (Or.inl ⟨rfl, _, rfl⟩), _, _, rfl, h⟩
def wX12_bearsAt_58 (G : jG) (l : Launch) (d : Nat) (Q : Option Value → jS → jL → Prop) (x1 : Int32) (x2 : Int32) (I : jS) (L : jL) : Prop := wX12_bearsAt_59 G l d Q x1 x2 (0 : Int32) I L
set_option maxRecDepth 100000 in
set_option maxHeartbeats 4000000 in
theorem wX12_bearsAt_58_ok {G : jG} {l : Launch} {d : Nat} {Q : Option Value → jS → jL → Prop} : ∀ (x1 : Int32) (x2 : Int32) (I : jS) (L : jL), wX12_bearsAt_58 G l d Q x1 x2 I L → J G l yX12_bearsAt cX12_bearsAt 4 (d + 1) 0 0 58 [some (.ref 71), some (.int x1), some (.int x2), none] [] (jKS, I, L, jR0) (jQm (some .int) Q) := by
  intro x1 x2 I L h
  rw [wX12_bearsAt_58] at h
  refine jr_iconst dX12_bearsAt_58 kic_0 ?_
  exact J.sub (wX12_bearsAt_59_ok  _ _ _ _ _ h) (jsub_some (jsub_some (jsub_some (jsub_none jsub_nil))))
def wX12_bearsAt_20 (G : jG) (l : Launch) (d : Nat) (Q : Option Value → jS → jL → Prop) (x1 : Int32) (t0 : Int32) (I : jS) (L : jL) : Prop := if (x1 / (8 : Int32)) = (I 71 22) then (cI G l mX12_isIn d [.int (I 71 21), .int (x1 - x1 / (8 : Int32) * (8 : Int32))] I L (fun r1 I1 L1 => (if r1 = 0 then (wX12_bearsAt_58 G l d Q x1 t0 I1 L1) else (vp_in ((72 : Int32) + x1) 125 ∧ (wX12_bearsAt_59 G l d Q x1 t0 (I1 72 (((72 : Int32) + x1).toNatClampNeg)) I1 L1))))) else (wX12_bearsAt_58 G l d Q x1 t0 I L)
set_option maxRecDepth 100000 in
set_option maxHeartbeats 4000000 in
theorem wX12_bearsAt_20_ok {G : jG} {l : Launch} {d : Nat} {Q : Option Value → jS → jL → Prop} : ∀ (x1 : Int32) (t0 : Int32) (I : jS) (L : jL), wX12_bearsAt_20 G l d Q x1 t0 I L → J G l yX12_bearsAt cX12_bearsAt 4 (d + 1) 0 0 20 [some (.ref 71), some (.int x1), none, none] [.int t0] (jKS, I, L, jR0) (jQm (some .int) Q) := by
  intro x1 t0 I L h
  rw [wX12_bearsAt_20] at h
  refine jr_istore_n dX12_bearsAt_20 rfl (by decide) rfl ?_
  refine jr_iload_n dX12_bearsAt_21 rfl rfl ?_
  refine jr_bipush dX12_bearsAt_22 kbp_8 ?_
  refine jr_idiv dX12_bearsAt_24 (by decide) ?_
  refine jr_aload_n dX12_bearsAt_25 rfl rfl ?_
  refine jv_geti rfl ff_X12_213 ks_71 dX12_bearsAt_26 ?_
  refine jr_icmp_ne dX12_bearsAt_29 (tgt := 58) (by decide) (fun c => ?_) (fun c => ?_)
  · rw [if_neg c] at h
    exact J.sub (wX12_bearsAt_58_ok  _ _ _ _ h) (jsub_some (jsub_some (jsub_some (jsub_none jsub_nil))))
  · rw [if_pos c] at h
    refine jr_aload_n dX12_bearsAt_32 rfl rfl ?_
    refine jv_geti rfl ff_X12_216 ks_71 dX12_bearsAt_33 ?_
    refine jr_iload_n dX12_bearsAt_36 rfl rfl ?_
    refine jr_bipush dX12_bearsAt_37 kbp_8 ?_
    refine jr_irem dX12_bearsAt_39 (by decide) ?_
    refine jr_callS (mc2 := 0) (mc := 0) (ms2 := 0) (ms := 0) vm_X12_219 (av := [.int (I 71 21), .int (x1 - x1 / (8 : Int32) * (8 : Int32))]) (st := []) rfl rfl (Nat.le_of_ble_eq_true rfl) dX12_bearsAt_40 (cI_use (M := (yX12_isIn, cX12_isIn, 2, some .boolean)) h ?_)
    intro r1 I1 L1 h
    refine jr_if_eq dX12_bearsAt_43 (tgt := 58) (by decide) (fun c => ?_) (fun c => ?_)
    · rw [if_pos c] at h
      exact J.sub (wX12_bearsAt_58_ok  _ _ _ _ h) (jsub_some (jsub_some (jsub_some (jsub_none jsub_nil))))
    · rw [if_neg c] at h
      refine jr_aload_n dX12_bearsAt_46 rfl rfl ?_
      refine jr_geta ff_X12_11 ks_71 rr_71_0 dX12_bearsAt_47 ?_
      refine jr_bipush dX12_bearsAt_50 kbp_72 ?_
      refine jr_iload_n dX12_bearsAt_52 rfl rfl ?_
      refine jr_iadd dX12_bearsAt_53 ?_
      obtain ⟨g2, h⟩ := h
      refine jv_iaload rfl rfl ks_72 dX12_bearsAt_54 g2 ?_
      refine jr_goto dX12_bearsAt_55 (tgt := 59) (by decide) ?_
      exact J.sub (wX12_bearsAt_59_ok  _ _ _ _ _ h) (jsub_some (jsub_some (jsub_some (jsub_none jsub_nil))))
def wX12_bearsAt (G : jG) (l : Launch) (d : Nat) (x1 : Int32) (I : jS) (L : jL) (Q : Option Value → jS → jL → Prop) : Prop := if (I 71 23) < 0 then (vp_in x1 125 ∧ (wX12_bearsAt_20 G l d Q x1 (I 72 x1.toNatClampNeg) I L)) else (wX12_bearsAt_20 G l d Q x1 (I 71 23) I L)
set_option maxRecDepth 100000 in
set_option maxHeartbeats 4000000 in
theorem wX12_bearsAt_ok {G : jG} {l : Launch} {d : Nat} {Q : Option Value → jS → jL → Prop} {x1 : Int32} {I : jS} {L : jL} (h : wX12_bearsAt G l d x1 I L Q) : cM G l mX12_bearsAt (d + 1) [.ref 71, .int x1] I L Q := by
  rw [wX12_bearsAt] at h
  show jCall G l yX12_bearsAt cX12_bearsAt 4 (some .int) (d + 1) 0 0 _ (jKS, I, L, jR0) _
  refine jCall_of (n0 := 2) (ls := [some (.ref 71), some (.int x1), none, none]) (by decide +kernel) rfl (Nat.le_of_ble_eq_true rfl) (jQm_of ?_)
  refine jr_aload_n dX12_bearsAt_0 rfl rfl ?_
  refine jv_geti rfl ff_X12_39 ks_71 dX12_bearsAt_1 ?_
  refine jr_if_lt dX12_bearsAt_4 (tgt := 14) (by decide) (fun c => ?_) (fun c => ?_)
  · rw [if_pos c] at h
    refine jr_aload_n dX12_bearsAt_14 rfl rfl ?_
    refine jr_geta ff_X12_11 ks_71 rr_71_0 dX12_bearsAt_15 ?_
    refine jr_iload_n dX12_bearsAt_18 rfl rfl ?_
    obtain ⟨g1, h⟩ := h
    refine jv_iaload rfl rfl ks_72 dX12_bearsAt_19 g1 ?_
    exact J.sub (wX12_bearsAt_20_ok  _ _ _ _ h) (jsub_some (jsub_some (jsub_none (jsub_none jsub_nil))))
  · rw [if_neg c] at h
    refine jr_aload_n dX12_bearsAt_7 rfl rfl ?_
    refine jv_geti rfl ff_X12_39 ks_71 dX12_bearsAt_8 ?_
    refine jr_goto dX12_bearsAt_11 (tgt := 20) (by decide) ?_
    exact J.sub (wX12_bearsAt_20_ok  _ _ _ _ h) (jsub_some (jsub_some (jsub_none (jsub_none jsub_nil))))
def wX12_passes_2 (G : jG) (l : Launch) (d : Nat) (Q : Option Value → jS → jL → Prop) : Nat → Int32 → Int32 → jS → jL → Prop
  | 0, _, _, _, _ => False
  | n2 + 1, x1, x2, I, L => if (24 : Int32) ≤ x2 then (Q none (u2 I 71 20 ((I 71 20) + x1)) L) else (vp_in x2 24 ∧ (vp_in ((24 : Int32) + x2) 125 ∧ (cI G l mX12_less d [.int (I 80 x2.toNatClampNeg), .int (x1 * (I 72 (((24 : Int32) + x2).toNatClampNeg)))] I L (fun r3 I3 L3 => ((wX12_passes_2 G l d Q n2) x1 (x2 + (1 : Int32)) (u2 I3 80 x2.toNatClampNeg r3) L3)))))
set_option maxRecDepth 100000 in
set_option maxHeartbeats 4000000 in
theorem wX12_passes_2_ok {G : jG} {l : Launch} {d : Nat} {Q : Option Value → jS → jL → Prop} : ∀ (n : Nat) (x1 : Int32) (x2 : Int32) (I : jS) (L : jL), wX12_passes_2 G l d Q n x1 x2 I L → J G l yX12_passes cX12_passes 3 (d + 1) 0 0 2 [some (.ref 71), some (.int x1), some (.int x2)] [] (jKS, I, L, jR0) (jQm (none) Q) := by
  intro n
  induction n with
  | zero => intro x1 x2 I L h; exact h.elim
  | succ n ih =>
    intro x1 x2 I L h
    rw [wX12_passes_2] at h
    refine jr_iload_n dX12_passes_2 rfl rfl ?_
    refine jr_bipush dX12_passes_3 kbp_24 ?_
    refine jr_icmp_ge dX12_passes_5 (tgt := 40) (by decide) (fun c => ?_) (fun c => ?_)
    · rw [if_pos c] at h
      refine jr_aload_n dX12_passes_40 rfl rfl ?_
      refine jr_dup dX12_passes_41 rfl ?_
      refine jv_geti rfl ff_X12_210 ks_71 dX12_passes_42 ?_
      refine jr_iload_n dX12_passes_45 rfl rfl ?_
      refine jr_iadd dX12_passes_46 ?_
      refine jr_puti ff_X12_210 ks_71 dX12_passes_47 ?_
      exact jr_return dX12_passes_50 ⟨Or.inl ⟨rfl, rfl⟩, _, _, rfl, h⟩
    · rw [if_neg c] at h
      refine jr_aload_n dX12_passes_8 rfl rfl ?_
      refine jr_geta ff_X12_36 ks_71 rr_71_19 dX12_passes_9 ?_
      refine jr_iload_n dX12_passes_12 rfl rfl ?_
      refine jr_aload_n dX12_passes_13 rfl rfl ?_
      refine jr_geta ff_X12_36 ks_71 rr_71_19 dX12_passes_14 ?_
      refine jr_iload_n dX12_passes_17 rfl rfl ?_
      obtain ⟨g1, h⟩ := h
      refine jv_iaload rfl rfl ks_80 dX12_passes_18 g1 ?_
      refine jr_iload_n dX12_passes_19 rfl rfl ?_
      refine jr_aload_n dX12_passes_20 rfl rfl ?_
      refine jr_geta ff_X12_11 ks_71 rr_71_0 dX12_passes_21 ?_
      refine jr_bipush dX12_passes_24 kbp_24 ?_
      refine jr_iload_n dX12_passes_26 rfl rfl ?_
      refine jr_iadd dX12_passes_27 ?_
      obtain ⟨g2, h⟩ := h
      refine jv_iaload rfl rfl ks_72 dX12_passes_28 g2 ?_
      refine jr_imul dX12_passes_29 ?_
      refine jr_callS (mc2 := 0) (mc := 0) (ms2 := 0) (ms := 0) vm_X12_222 (av := [.int (I 80 x2.toNatClampNeg), .int (x1 * (I 72 (((24 : Int32) + x2).toNatClampNeg)))]) (st := [.int x2, .ref 80]) rfl rfl (Nat.le_of_ble_eq_true rfl) dX12_passes_30 (cI_use (M := (yX12_less, cX12_less, 2, some .int)) h ?_)
      intro r3 I3 L3 h
      refine jr_iastore rfl ks_80 dX12_passes_33 g1 ?_
      refine jr_iinc dX12_passes_34 rfl (by rw [kic_1]) (by decide) rfl ?_
      refine jr_goto dX12_passes_37 (tgt := 2) (by decide) ?_
      exact J.sub (ih _ _ _ _ h) (jsub_some (jsub_some (jsub_some jsub_nil)))
def wX12_passes (G : jG) (l : Launch) (d : Nat) (x1 : Int32) (I : jS) (L : jL) (Q : Option Value → jS → jL → Prop) : Prop := ∃ e2 : Nat, wX12_passes_2 G l d Q e2 x1 (0 : Int32) I L
set_option maxRecDepth 100000 in
set_option maxHeartbeats 4000000 in
theorem wX12_passes_ok {G : jG} {l : Launch} {d : Nat} {Q : Option Value → jS → jL → Prop} {x1 : Int32} {I : jS} {L : jL} (h : wX12_passes G l d x1 I L Q) : cM G l mX12_passes (d + 1) [.ref 71, .int x1] I L Q := by
  rw [wX12_passes] at h
  show jCall G l yX12_passes cX12_passes 3 (none) (d + 1) 0 0 _ (jKS, I, L, jR0) _
  refine jCall_of (n0 := 1) (ls := [some (.ref 71), some (.int x1), none]) (by decide +kernel) rfl (Nat.le_of_ble_eq_true rfl) (jQm_of ?_)
  refine jr_iconst dX12_passes_0 kic_0 ?_
  refine jr_istore_n dX12_passes_1 rfl (by decide) rfl ?_
  obtain ⟨e2, h⟩ := h
  exact J.sub (wX12_passes_2_ok  e2 _ _ _ _ h) (jsub_some (jsub_some (jsub_some jsub_nil)))
def wX12_weakerBy (G : jG) (l : Launch) (d : Nat) (x1 : Int32) (x2 : Int32) (x3 : Int32) (x4 : Int32) (x5 : Int32) (I : jS) (L : jL) (Q : Option Value → jS → jL → Prop) : Prop := if 0 ≤ (I 71 12) then (cI G l mX12_bearsAt d [.ref 71, .int x5] (u2 (u2 (u2 I 79 0 x1) 79 1 x2) 79 2 x3) L (fun r1 I1 L1 => (cI G l mX12_workOut d [.ref 71, .int (0 : Int32), .int (I1 71 12)] (u2 (u2 (u2 I1 79 3 r1) 79 4 (x5 - x5 / (8 : Int32) * (8 : Int32))) 79 5 (I1 71 20)) L1 (fun r2 I2 L2 => (if 0 ≤ r2 then (if r2 ≤ (99 : Int32) then (Q (some (.int r2)) I2 L2) else (Q (some (.int (99 : Int32))) I2 L2)) else (Q (some (.int (0 : Int32))) I2 L2)))))) else (if x4 = 0 then (Q (some (.int x2)) I L) else (Q (some (.int (x2 / (2 : Int32)))) I L))
set_option maxRecDepth 100000 in
set_option maxHeartbeats 4000000 in
theorem wX12_weakerBy_ok {G : jG} {l : Launch} {d : Nat} {Q : Option Value → jS → jL → Prop} {x1 : Int32} {x2 : Int32} {x3 : Int32} {x4 : Int32} {x5 : Int32} {I : jS} {L : jL} (h : wX12_weakerBy G l d x1 x2 x3 x4 x5 I L Q) : cM G l mX12_weakerBy (d + 1) [.ref 71, .int x1, .int x2, .int x3, .int x4, .int x5] I L Q := by
  rw [wX12_weakerBy] at h
  show jCall G l yX12_weakerBy cX12_weakerBy 7 (some .int) (d + 1) 0 0 _ (jKS, I, L, jR0) _
  refine jCall_of (n0 := 1) (ls := [some (.ref 71), some (.int x1), some (.int x2), some (.int x3), some (.int x4), some (.int x5), none]) (by decide +kernel) rfl (Nat.le_of_ble_eq_true rfl) (jQm_of ?_)
  refine jr_aload_n dX12_weakerBy_0 rfl rfl ?_
  refine jv_geti rfl ff_X12_81 ks_71 dX12_weakerBy_1 ?_
  refine jr_if_ge dX12_weakerBy_4 (tgt := 20) (by decide) (fun c => ?_) (fun c => ?_)
  · rw [if_pos c] at h
    refine jr_aload_n dX12_weakerBy_20 rfl rfl ?_
    refine jr_geta ff_X12_33 ks_71 rr_71_18 dX12_weakerBy_21 ?_
    refine jr_iconst dX12_weakerBy_24 kic_0 ?_
    refine jr_iload_n dX12_weakerBy_25 rfl rfl ?_
    refine jr_iastore nn_0 ks_79 dX12_weakerBy_26 vin_0_6 ?_
    refine jr_aload_n dX12_weakerBy_27 rfl rfl ?_
    refine jr_geta ff_X12_33 ks_71 rr_71_18 dX12_weakerBy_28 ?_
    refine jr_iconst dX12_weakerBy_31 kic_1 ?_
    refine jr_iload_n dX12_weakerBy_32 rfl rfl ?_
    refine jr_iastore nn_1 ks_79 dX12_weakerBy_33 vin_1_6 ?_
    refine jr_aload_n dX12_weakerBy_34 rfl rfl ?_
    refine jr_geta ff_X12_33 ks_71 rr_71_18 dX12_weakerBy_35 ?_
    refine jr_iconst dX12_weakerBy_38 kic_2 ?_
    refine jr_iload_n dX12_weakerBy_39 rfl rfl ?_
    refine jr_iastore nn_2 ks_79 dX12_weakerBy_40 vin_2_6 ?_
    refine jr_aload_n dX12_weakerBy_41 rfl rfl ?_
    refine jr_geta ff_X12_33 ks_71 rr_71_18 dX12_weakerBy_42 ?_
    refine jr_iconst dX12_weakerBy_45 kic_3 ?_
    refine jr_aload_n dX12_weakerBy_46 rfl rfl ?_
    refine jr_iload dX12_weakerBy_47 rfl ?_
    refine jr_callV (mc2 := 0) (mc := 0) (ms2 := 0) (ms := 0) vm_X12_149 (av := [.int x5]) (st := [.int (3 : Int32), .ref 79]) rfl rfl ks_71 (by decide) rfl (Nat.le_of_ble_eq_true rfl) dX12_weakerBy_49 (cI_use (M := (yX12_bearsAt, cX12_bearsAt, 4, some .int)) h ?_)
    intro r1 I1 L1 h
    refine jr_iastore nn_3 ks_79 dX12_weakerBy_52 vin_3_6 ?_
    refine jr_aload_n dX12_weakerBy_53 rfl rfl ?_
    refine jr_geta ff_X12_33 ks_71 rr_71_18 dX12_weakerBy_54 ?_
    refine jr_iconst dX12_weakerBy_57 kic_4 ?_
    refine jr_iload dX12_weakerBy_58 rfl ?_
    refine jr_bipush dX12_weakerBy_60 kbp_8 ?_
    refine jr_irem dX12_weakerBy_62 (by decide) ?_
    refine jr_iastore nn_4 ks_79 dX12_weakerBy_63 vin_4_6 ?_
    refine jr_aload_n dX12_weakerBy_64 rfl rfl ?_
    refine jr_geta ff_X12_33 ks_71 rr_71_18 dX12_weakerBy_65 ?_
    refine jr_iconst dX12_weakerBy_68 kic_5 ?_
    refine jr_aload_n dX12_weakerBy_69 rfl rfl ?_
    refine jv_geti ((u2n (by decide)).trans (u2n (by decide))) ff_X12_210 ks_71 dX12_weakerBy_70 ?_
    refine jr_iastore nn_5 ks_79 dX12_weakerBy_73 vin_5_6 ?_
    refine jr_aload_n dX12_weakerBy_74 rfl rfl ?_
    refine jr_iconst dX12_weakerBy_75 kic_0 ?_
    refine jr_aload_n dX12_weakerBy_76 rfl rfl ?_
    refine jv_geti ((u2n (by decide)).trans ((u2n (by decide)).trans (u2n (by decide)))) ff_X12_81 ks_71 dX12_weakerBy_77 ?_
    refine jr_callV (mc2 := 0) (mc := 0) (ms2 := 0) (ms := 0) vm_X12_207 (av := [.int (0 : Int32), .int (I1 71 12)]) (st := []) rfl rfl ks_71 (by decide) rfl (Nat.le_of_ble_eq_true rfl) dX12_weakerBy_80 (cI_use (M := (yX12_workOut, cX12_workOut, 8, some .int)) h ?_)
    intro r2 I2 L2 h
    refine jr_istore dX12_weakerBy_83 (by decide) rfl ?_
    refine jr_iload dX12_weakerBy_85 rfl ?_
    refine jr_if_ge dX12_weakerBy_87 (tgt := 94) (by decide) (fun c => ?_) (fun c => ?_)
    · rw [if_pos c] at h
      refine jr_iload dX12_weakerBy_94 rfl ?_
      refine jr_bipush dX12_weakerBy_96 kbp_99 ?_
      refine jr_icmp_le dX12_weakerBy_98 (tgt := 106) (by decide) (fun c => ?_) (fun c => ?_)
      · rw [if_pos c] at h
        refine jr_iload dX12_weakerBy_106 rfl ?_
        exact jr_ireturn dX12_weakerBy_108 ⟨Or.inr (Or.inl ⟨rfl, _, rfl⟩), _, _, rfl, h⟩
      · rw [if_neg c] at h
        refine jr_bipush dX12_weakerBy_101 kbp_99 ?_
        refine jr_goto dX12_weakerBy_103 (tgt := 108) (by decide) ?_
        exact jr_ireturn dX12_weakerBy_108 ⟨Or.inr (Or.inl ⟨rfl, _, rfl⟩), _, _, rfl, h⟩
    · rw [if_neg c] at h
      refine jr_iconst dX12_weakerBy_90 kic_0 ?_
      refine jr_goto dX12_weakerBy_91 (tgt := 108) (by decide) ?_
      exact jr_ireturn dX12_weakerBy_108 ⟨Or.inr (Or.inl ⟨rfl, _, rfl⟩), _, _, rfl, h⟩
  · rw [if_neg c] at h
    refine jr_iload dX12_weakerBy_7 rfl ?_
    refine jr_if_eq dX12_weakerBy_9 (tgt := 18) (by decide) (fun c => ?_) (fun c => ?_)
    · rw [if_pos c] at h
      refine jr_iload_n dX12_weakerBy_18 rfl rfl ?_
      exact jr_ireturn dX12_weakerBy_19 ⟨Or.inr (Or.inl ⟨rfl, _, rfl⟩), _, _, rfl, h⟩
    · rw [if_neg c] at h
      refine jr_iload_n dX12_weakerBy_12 rfl rfl ?_
      refine jr_iconst dX12_weakerBy_13 kic_2 ?_
      refine jr_idiv dX12_weakerBy_14 (by decide) ?_
      refine jr_goto dX12_weakerBy_15 (tgt := 19) (by decide) ?_
      exact jr_ireturn dX12_weakerBy_19 ⟨Or.inr (Or.inl ⟨rfl, _, rfl⟩), _, _, rfl, h⟩
def wX12_crossesWith_113 (G : jG) (l : Launch) (d : Nat) (k63 : Int32 → Int32 → Int32 → Int32 → Int32 → Int32 → Int32 → Int32 → jS → jL → Prop) (Q : Option Value → jS → jL → Prop) (x1 : Int32) (x2 : Int32) (x4 : Int32) (x5 : Int32) (x7 : Int32) (x8 : Int32) (x10 : Int32) (x11 : Int32) (t0 : Int32) (I : jS) (L : jL) : Prop := if t0 = 0 then (vp_in x11 24 ∧ (k63 x1 x2 x4 x5 x7 x8 t0 (x10 + (1 : Int32)) (u2 (u2 I 80 x11.toNatClampNeg (99 : Int32)) 71 24 x11) L)) else (vp_in x11 24 ∧ (cI G l mX12_ofGoer d [.ref 71, .int x1, .int (3 : Int32)] I L (fun r3 I3 L3 => (cI G l mX12_weakerBy d [.ref 71, .int x7, .int x8, .int r3, .int x5, .int x11] I3 L3 (fun r4 I4 L4 => (if ((I 80 x11.toNatClampNeg) + r4) ≤ (99 : Int32) then (k63 x1 x2 x4 x5 x7 x8 t0 (x10 + (1 : Int32)) (u2 I4 80 x11.toNatClampNeg ((I 80 x11.toNatClampNeg) + r4)) L4) else (k63 x1 x2 x4 x5 x7 x8 t0 (x10 + (1 : Int32)) (u2 I4 80 x11.toNatClampNeg (99 : Int32)) L4)))))))
set_option maxRecDepth 100000 in
set_option maxHeartbeats 4000000 in
theorem wX12_crossesWith_113_ok {G : jG} {l : Launch} {d : Nat} {Q : Option Value → jS → jL → Prop} {k63 : Int32 → Int32 → Int32 → Int32 → Int32 → Int32 → Int32 → Int32 → jS → jL → Prop} (hk63 : ∀ (x1 : Int32) (x2 : Int32) (x4 : Int32) (x5 : Int32) (x7 : Int32) (x8 : Int32) (x9 : Int32) (x10 : Int32) (I : jS) (L : jL), k63 x1 x2 x4 x5 x7 x8 x9 x10 I L → J G l yX12_crossesWith cX12_crossesWith 13 (d + 1) 0 0 63 [some (.ref 71), some (.int x1), some (.int x2), none, some (.int x4), some (.int x5), none, some (.int x7), some (.int x8), some (.int x9), some (.int x10), none, none] [] (jKS, I, L, jR0) (jQm (some .boolean) Q)) : ∀ (x1 : Int32) (x2 : Int32) (x4 : Int32) (x5 : Int32) (x7 : Int32) (x8 : Int32) (x10 : Int32) (x11 : Int32) (t0 : Int32) (I : jS) (L : jL), wX12_crossesWith_113 G l d k63 Q x1 x2 x4 x5 x7 x8 x10 x11 t0 I L → J G l yX12_crossesWith cX12_crossesWith 13 (d + 1) 0 0 113 [some (.ref 71), some (.int x1), some (.int x2), none, some (.int x4), some (.int x5), none, some (.int x7), some (.int x8), none, some (.int x10), some (.int x11), none] [.int t0] (jKS, I, L, jR0) (jQm (some .boolean) Q) := by
  intro x1 x2 x4 x5 x7 x8 x10 x11 t0 I L h
  rw [wX12_crossesWith_113] at h
  refine jr_istore dX12_crossesWith_113 (by decide) rfl ?_
  refine jr_iload dX12_crossesWith_115 rfl ?_
  refine jr_if_eq dX12_crossesWith_117 (tgt := 172) (by decide) (fun c => ?_) (fun c => ?_)
  · rw [if_pos c] at h
    refine jr_aload_n dX12_crossesWith_172 rfl rfl ?_
    refine jr_geta ff_X12_36 ks_71 rr_71_19 dX12_crossesWith_173 ?_
    refine jr_iload dX12_crossesWith_176 rfl ?_
    refine jr_bipush dX12_crossesWith_178 kbp_99 ?_
    obtain ⟨g1, h⟩ := h
    refine jr_iastore rfl ks_80 dX12_crossesWith_180 g1 ?_
    refine jr_aload_n dX12_crossesWith_181 rfl rfl ?_
    refine jr_iload dX12_crossesWith_182 rfl ?_
    refine jr_puti ff_X12_232 ks_71 dX12_crossesWith_184 ?_
    refine jr_iinc dX12_crossesWith_187 rfl (by rw [kic_1]) (by decide) rfl ?_
    refine jr_goto dX12_crossesWith_190 (tgt := 63) (by decide) ?_
    exact J.sub (hk63 _ _ _ _ _ _ _ _ _ _ h) (jsub_some (jsub_some (jsub_some (jsub_none (jsub_some (jsub_some (jsub_none (jsub_some (jsub_some (jsub_some (jsub_some (jsub_none (jsub_none jsub_nil)))))))))))))
  · rw [if_neg c] at h
    refine jr_aload_n dX12_crossesWith_120 rfl rfl ?_
    refine jr_geta ff_X12_36 ks_71 rr_71_19 dX12_crossesWith_121 ?_
    refine jr_iload dX12_crossesWith_124 rfl ?_
    obtain ⟨g2, h⟩ := h
    refine jv_iaload rfl rfl ks_80 dX12_crossesWith_126 g2 ?_
    refine jr_aload_n dX12_crossesWith_127 rfl rfl ?_
    refine jr_iload dX12_crossesWith_128 rfl ?_
    refine jr_iload dX12_crossesWith_130 rfl ?_
    refine jr_aload_n dX12_crossesWith_132 rfl rfl ?_
    refine jr_iload_n dX12_crossesWith_133 rfl rfl ?_
    refine jr_iconst dX12_crossesWith_134 kic_3 ?_
    refine jr_callV (mc2 := 0) (mc := 0) (ms2 := 0) (ms := 0) vm_X12_225 (av := [.int x1, .int (3 : Int32)]) (st := [.int x8, .int x7, .ref 71, .int (I 80 x11.toNatClampNeg)]) rfl rfl ks_71 (by decide) rfl (Nat.le_of_ble_eq_true rfl) dX12_crossesWith_135 (cI_use (M := (yX12_ofGoer, cX12_ofGoer, 3, some .int)) h ?_)
    intro r3 I3 L3 h
    refine jr_iload dX12_crossesWith_138 rfl ?_
    refine jr_iload dX12_crossesWith_140 rfl ?_
    refine jr_callV (mc2 := 0) (mc := 0) (ms2 := 0) (ms := 0) vm_X12_228 (av := [.int x7, .int x8, .int r3, .int x5, .int x11]) (st := [.int (I 80 x11.toNatClampNeg)]) rfl rfl ks_71 (by decide) rfl (Nat.le_of_ble_eq_true rfl) dX12_crossesWith_142 (cI_use (M := (yX12_weakerBy, cX12_weakerBy, 7, some .int)) h ?_)
    intro r4 I4 L4 h
    refine jr_iadd dX12_crossesWith_145 ?_
    refine jr_istore dX12_crossesWith_146 (by decide) rfl ?_
    refine jr_aload_n dX12_crossesWith_148 rfl rfl ?_
    refine jr_geta ff_X12_36 ks_71 rr_71_19 dX12_crossesWith_149 ?_
    refine jr_iload dX12_crossesWith_152 rfl ?_
    refine jr_iload dX12_crossesWith_154 rfl ?_
    refine jr_bipush dX12_crossesWith_156 kbp_99 ?_
    refine jr_icmp_le dX12_crossesWith_158 (tgt := 166) (by decide) (fun c => ?_) (fun c => ?_)
    · rw [if_pos c] at h
      refine jr_iload dX12_crossesWith_166 rfl ?_
      refine jr_iastore rfl ks_80 dX12_crossesWith_168 g2 ?_
      refine jr_goto dX12_crossesWith_169 (tgt := 187) (by decide) ?_
      refine jr_iinc dX12_crossesWith_187 rfl (by rw [kic_1]) (by decide) rfl ?_
      refine jr_goto dX12_crossesWith_190 (tgt := 63) (by decide) ?_
      exact J.sub (hk63 _ _ _ _ _ _ _ _ _ _ h) (jsub_some (jsub_some (jsub_some (jsub_none (jsub_some (jsub_some (jsub_none (jsub_some (jsub_some (jsub_some (jsub_some (jsub_none (jsub_none jsub_nil)))))))))))))
    · rw [if_neg c] at h
      refine jr_bipush dX12_crossesWith_161 kbp_99 ?_
      refine jr_goto dX12_crossesWith_163 (tgt := 168) (by decide) ?_
      refine jr_iastore rfl ks_80 dX12_crossesWith_168 g2 ?_
      refine jr_goto dX12_crossesWith_169 (tgt := 187) (by decide) ?_
      refine jr_iinc dX12_crossesWith_187 rfl (by rw [kic_1]) (by decide) rfl ?_
      refine jr_goto dX12_crossesWith_190 (tgt := 63) (by decide) ?_
      exact J.sub (hk63 _ _ _ _ _ _ _ _ _ _ h) (jsub_some (jsub_some (jsub_some (jsub_none (jsub_some (jsub_some (jsub_none (jsub_some (jsub_some (jsub_some (jsub_some (jsub_none (jsub_none jsub_nil)))))))))))))
def wX12_crossesWith_94 (G : jG) (l : Launch) (d : Nat) (k63 : Int32 → Int32 → Int32 → Int32 → Int32 → Int32 → Int32 → Int32 → jS → jL → Prop) (Q : Option Value → jS → jL → Prop) (x1 : Int32) (x2 : Int32) (x4 : Int32) (x5 : Int32) (x7 : Int32) (x8 : Int32) (x10 : Int32) (t0 : Int32) (t1 : Int32) (I : jS) (L : jL) : Prop := cI G l mX12_bearsAt d [.ref 71, .int (t0 + t1)] I L (fun r1 I1 L1 => (if r1 < x7 then (wX12_crossesWith_113 G l d k63 Q x1 x2 x4 x5 x7 x8 x10 (t0 + t1) (0 : Int32) I1 L1) else (wX12_crossesWith_113 G l d k63 Q x1 x2 x4 x5 x7 x8 x10 (t0 + t1) (1 : Int32) I1 L1)))
set_option maxRecDepth 100000 in
set_option maxHeartbeats 4000000 in
theorem wX12_crossesWith_94_ok {G : jG} {l : Launch} {d : Nat} {Q : Option Value → jS → jL → Prop} {k63 : Int32 → Int32 → Int32 → Int32 → Int32 → Int32 → Int32 → Int32 → jS → jL → Prop} (hk63 : ∀ (x1 : Int32) (x2 : Int32) (x4 : Int32) (x5 : Int32) (x7 : Int32) (x8 : Int32) (x9 : Int32) (x10 : Int32) (I : jS) (L : jL), k63 x1 x2 x4 x5 x7 x8 x9 x10 I L → J G l yX12_crossesWith cX12_crossesWith 13 (d + 1) 0 0 63 [some (.ref 71), some (.int x1), some (.int x2), none, some (.int x4), some (.int x5), none, some (.int x7), some (.int x8), some (.int x9), some (.int x10), none, none] [] (jKS, I, L, jR0) (jQm (some .boolean) Q)) : ∀ (x1 : Int32) (x2 : Int32) (x4 : Int32) (x5 : Int32) (x7 : Int32) (x8 : Int32) (x10 : Int32) (t0 : Int32) (t1 : Int32) (I : jS) (L : jL), wX12_crossesWith_94 G l d k63 Q x1 x2 x4 x5 x7 x8 x10 t0 t1 I L → J G l yX12_crossesWith cX12_crossesWith 13 (d + 1) 0 0 94 [some (.ref 71), some (.int x1), some (.int x2), none, some (.int x4), some (.int x5), none, some (.int x7), some (.int x8), none, some (.int x10), none, none] [.int t1, .int t0] (jKS, I, L, jR0) (jQm (some .boolean) Q) := by
  intro x1 x2 x4 x5 x7 x8 x10 t0 t1 I L h
  rw [wX12_crossesWith_94] at h
  refine jr_iadd dX12_crossesWith_94 ?_
  refine jr_istore dX12_crossesWith_95 (by decide) rfl ?_
  refine jr_aload_n dX12_crossesWith_97 rfl rfl ?_
  refine jr_iload dX12_crossesWith_98 rfl ?_
  refine jr_callV (mc2 := 0) (mc := 0) (ms2 := 0) (ms := 0) vm_X12_149 (av := [.int (t0 + t1)]) (st := []) rfl rfl ks_71 (by decide) rfl (Nat.le_of_ble_eq_true rfl) dX12_crossesWith_100 (cI_use (M := (yX12_bearsAt, cX12_bearsAt, 4, some .int)) h ?_)
  intro r1 I1 L1 h
  refine jr_iload dX12_crossesWith_103 rfl ?_
  refine jr_icmp_lt dX12_crossesWith_105 (tgt := 112) (by decide) (fun c => ?_) (fun c => ?_)
  · rw [if_pos c] at h
    refine jr_iconst dX12_crossesWith_112 kic_0 ?_
    exact J.sub (wX12_crossesWith_113_ok  hk63 _ _ _ _ _ _ _ _ _ _ _ h) (jsub_some (jsub_some (jsub_some (jsub_none (jsub_some (jsub_some (jsub_none (jsub_some (jsub_some (jsub_none (jsub_some (jsub_some (jsub_none jsub_nil)))))))))))))
  · rw [if_neg c] at h
    refine jr_iconst dX12_crossesWith_108 kic_1 ?_
    refine jr_goto dX12_crossesWith_109 (tgt := 113) (by decide) ?_
    exact J.sub (wX12_crossesWith_113_ok  hk63 _ _ _ _ _ _ _ _ _ _ _ h) (jsub_some (jsub_some (jsub_some (jsub_none (jsub_some (jsub_some (jsub_none (jsub_some (jsub_some (jsub_none (jsub_some (jsub_some (jsub_none jsub_nil)))))))))))))
def wX12_crossesWith_216 (G : jG) (l : Launch) (d : Nat) (Q : Option Value → jS → jL → Prop) (x9 : Int32) (t1 : Int32) (I : jS) (L : jL) : Prop := cV G l mX12_passes d [.ref 71, .int t1] I L (fun I1 L1 => ((x9 = 0 ∨ x9 = 1) ∧ Q (some (.int x9)) I1 L1))
set_option maxRecDepth 100000 in
set_option maxHeartbeats 4000000 in
theorem wX12_crossesWith_216_ok {G : jG} {l : Launch} {d : Nat} {Q : Option Value → jS → jL → Prop} : ∀ (x9 : Int32) (t1 : Int32) (I : jS) (L : jL), wX12_crossesWith_216 G l d Q x9 t1 I L → J G l yX12_crossesWith cX12_crossesWith 13 (d + 1) 0 0 216 [none, none, none, none, none, none, none, none, none, some (.int x9), none, none, none] [.int t1, .ref 71] (jKS, I, L, jR0) (jQm (some .boolean) Q) := by
  intro x9 t1 I L h
  rw [wX12_crossesWith_216] at h
  refine jr_callV (mc2 := 0) (mc := 0) (ms2 := 0) (ms := 0) vm_X12_235 (av := [.int t1]) (st := []) rfl rfl ks_71 (by decide) rfl (Nat.le_of_ble_eq_true rfl) dX12_crossesWith_216 (cV_use (M := (yX12_passes, cX12_passes, 3, none)) h ?_)
  intro I1 L1 h
  refine jr_iload dX12_crossesWith_219 rfl ?_
  obtain ⟨gz, h⟩ := h
  exact jr_ireturn dX12_crossesWith_221 ⟨Or.inr (Or.inr (Or.inr ⟨rfl, gz.imp (fun e => by rw [e]) (fun e => by rw [e])⟩)), _, _, rfl, h⟩
def wX12_crossesWith_193 (G : jG) (l : Launch) (d : Nat) (Q : Option Value → jS → jL → Prop) (x1 : Int32) (x5 : Int32) (x9 : Int32) (I : jS) (L : jL) : Prop := if x5 = 0 then (cI G l mX12_ofGoer d [.ref 71, .int x1, .int (3 : Int32)] I L (fun r1 I1 L1 => (wX12_crossesWith_216 G l d Q x9 r1 I1 L1))) else (cI G l mX12_ofGoer d [.ref 71, .int x1, .int (3 : Int32)] I L (fun r2 I2 L2 => (wX12_crossesWith_216 G l d Q x9 ((2 : Int32) * r2) I2 L2)))
set_option maxRecDepth 100000 in
set_option maxHeartbeats 4000000 in
theorem wX12_crossesWith_193_ok {G : jG} {l : Launch} {d : Nat} {Q : Option Value → jS → jL → Prop} : ∀ (x1 : Int32) (x5 : Int32) (x9 : Int32) (I : jS) (L : jL), wX12_crossesWith_193 G l d Q x1 x5 x9 I L → J G l yX12_crossesWith cX12_crossesWith 13 (d + 1) 0 0 193 [some (.ref 71), some (.int x1), none, none, none, some (.int x5), none, none, none, some (.int x9), none, none, none] [] (jKS, I, L, jR0) (jQm (some .boolean) Q) := by
  intro x1 x5 x9 I L h
  rw [wX12_crossesWith_193] at h
  refine jr_aload_n dX12_crossesWith_193 rfl rfl ?_
  refine jr_iload dX12_crossesWith_194 rfl ?_
  refine jr_if_eq dX12_crossesWith_196 (tgt := 210) (by decide) (fun c => ?_) (fun c => ?_)
  · rw [if_pos c] at h
    refine jr_aload_n dX12_crossesWith_210 rfl rfl ?_
    refine jr_iload_n dX12_crossesWith_211 rfl rfl ?_
    refine jr_iconst dX12_crossesWith_212 kic_3 ?_
    refine jr_callV (mc2 := 0) (mc := 0) (ms2 := 0) (ms := 0) vm_X12_225 (av := [.int x1, .int (3 : Int32)]) (st := [.ref 71]) rfl rfl ks_71 (by decide) rfl (Nat.le_of_ble_eq_true rfl) dX12_crossesWith_213 (cI_use (M := (yX12_ofGoer, cX12_ofGoer, 3, some .int)) h ?_)
    intro r1 I1 L1 h
    exact J.sub (wX12_crossesWith_216_ok  _ _ _ _ h) (jsub_none (jsub_none (jsub_none (jsub_none (jsub_none (jsub_none (jsub_none (jsub_none (jsub_none (jsub_some (jsub_none (jsub_none (jsub_none jsub_nil)))))))))))))
  · rw [if_neg c] at h
    refine jr_iconst dX12_crossesWith_199 kic_2 ?_
    refine jr_aload_n dX12_crossesWith_200 rfl rfl ?_
    refine jr_iload_n dX12_crossesWith_201 rfl rfl ?_
    refine jr_iconst dX12_crossesWith_202 kic_3 ?_
    refine jr_callV (mc2 := 0) (mc := 0) (ms2 := 0) (ms := 0) vm_X12_225 (av := [.int x1, .int (3 : Int32)]) (st := [.int (2 : Int32), .ref 71]) rfl rfl ks_71 (by decide) rfl (Nat.le_of_ble_eq_true rfl) dX12_crossesWith_203 (cI_use (M := (yX12_ofGoer, cX12_ofGoer, 3, some .int)) h ?_)
    intro r2 I2 L2 h
    refine jr_imul dX12_crossesWith_206 ?_
    refine jr_goto dX12_crossesWith_207 (tgt := 216) (by decide) ?_
    exact J.sub (wX12_crossesWith_216_ok  _ _ _ _ h) (jsub_none (jsub_none (jsub_none (jsub_none (jsub_none (jsub_none (jsub_none (jsub_none (jsub_none (jsub_some (jsub_none (jsub_none (jsub_none jsub_nil)))))))))))))
def wX12_crossesWith_63 (G : jG) (l : Launch) (d : Nat) (Q : Option Value → jS → jL → Prop) : Nat → Int32 → Int32 → Int32 → Int32 → Int32 → Int32 → Int32 → Int32 → jS → jL → Prop
  | 0, _, _, _, _, _, _, _, _, _, _ => False
  | n63 + 1, x1, x2, x4, x5, x7, x8, x9, x10, I, L => if (8 : Int32) ≤ x10 then (wX12_crossesWith_193 G l d Q x1 x5 x9 I L) else (if x9 = 0 then (wX12_crossesWith_193 G l d Q x1 x5 x9 I L) else (if x4 = 0 then (wX12_crossesWith_94 G l d (fun z0 z1 z2 z3 z4 z5 z6 z7 I L => wX12_crossesWith_63 G l d Q n63 z0 z1 z2 z3 z4 z5 z6 z7 I L) Q x1 x2 x4 x5 x7 x8 x10 ((8 : Int32) * x2) x10 I L) else (wX12_crossesWith_94 G l d (fun z0 z1 z2 z3 z4 z5 z6 z7 I L => wX12_crossesWith_63 G l d Q n63 z0 z1 z2 z3 z4 z5 z6 z7 I L) Q x1 x2 x4 x5 x7 x8 x10 ((8 : Int32) * x2) ((7 : Int32) - x10) I L)))
set_option maxRecDepth 100000 in
set_option maxHeartbeats 4000000 in
theorem wX12_crossesWith_63_ok {G : jG} {l : Launch} {d : Nat} {Q : Option Value → jS → jL → Prop} : ∀ (n : Nat) (x1 : Int32) (x2 : Int32) (x4 : Int32) (x5 : Int32) (x7 : Int32) (x8 : Int32) (x9 : Int32) (x10 : Int32) (I : jS) (L : jL), wX12_crossesWith_63 G l d Q n x1 x2 x4 x5 x7 x8 x9 x10 I L → J G l yX12_crossesWith cX12_crossesWith 13 (d + 1) 0 0 63 [some (.ref 71), some (.int x1), some (.int x2), none, some (.int x4), some (.int x5), none, some (.int x7), some (.int x8), some (.int x9), some (.int x10), none, none] [] (jKS, I, L, jR0) (jQm (some .boolean) Q) := by
  intro n
  induction n with
  | zero => intro x1 x2 x4 x5 x7 x8 x9 x10 I L h; exact h.elim
  | succ n ih =>
    intro x1 x2 x4 x5 x7 x8 x9 x10 I L h
    rw [wX12_crossesWith_63] at h
    refine jr_iload dX12_crossesWith_63 rfl ?_
    refine jr_bipush dX12_crossesWith_65 kbp_8 ?_
    refine jr_icmp_ge dX12_crossesWith_67 (tgt := 193) (by decide) (fun c => ?_) (fun c => ?_)
    · rw [if_pos c] at h
      exact J.sub (wX12_crossesWith_193_ok  _ _ _ _ _ h) (jsub_some (jsub_some (jsub_none (jsub_none (jsub_none (jsub_some (jsub_none (jsub_none (jsub_none (jsub_some (jsub_none (jsub_none (jsub_none jsub_nil)))))))))))))
    · rw [if_neg c] at h
      refine jr_iload dX12_crossesWith_70 rfl ?_
      refine jr_if_eq dX12_crossesWith_72 (tgt := 193) (by decide) (fun c => ?_) (fun c => ?_)
      · rw [if_pos c] at h
        exact J.sub (wX12_crossesWith_193_ok  _ _ _ _ _ h) (jsub_some (jsub_some (jsub_none (jsub_none (jsub_none (jsub_some (jsub_none (jsub_none (jsub_none (jsub_some (jsub_none (jsub_none (jsub_none jsub_nil)))))))))))))
      · rw [if_neg c] at h
        refine jr_bipush dX12_crossesWith_75 kbp_8 ?_
        refine jr_iload_n dX12_crossesWith_77 rfl rfl ?_
        refine jr_imul dX12_crossesWith_78 ?_
        refine jr_iload dX12_crossesWith_79 rfl ?_
        refine jr_if_eq dX12_crossesWith_81 (tgt := 92) (by decide) (fun c => ?_) (fun c => ?_)
        · rw [if_pos c] at h
          refine jr_iload dX12_crossesWith_92 rfl ?_
          exact J.sub (wX12_crossesWith_94_ok  ih _ _ _ _ _ _ _ _ _ _ _ h) (jsub_some (jsub_some (jsub_some (jsub_none (jsub_some (jsub_some (jsub_none (jsub_some (jsub_some (jsub_none (jsub_some (jsub_none (jsub_none jsub_nil)))))))))))))
        · rw [if_neg c] at h
          refine jr_bipush dX12_crossesWith_84 kbp_7 ?_
          refine jr_iload dX12_crossesWith_86 rfl ?_
          refine jr_isub dX12_crossesWith_88 ?_
          refine jr_goto dX12_crossesWith_89 (tgt := 94) (by decide) ?_
          exact J.sub (wX12_crossesWith_94_ok  ih _ _ _ _ _ _ _ _ _ _ _ h) (jsub_some (jsub_some (jsub_some (jsub_none (jsub_some (jsub_some (jsub_none (jsub_some (jsub_some (jsub_none (jsub_some (jsub_none (jsub_none jsub_nil)))))))))))))
def wX12_crossesWith_43 (G : jG) (l : Launch) (d : Nat) (Q : Option Value → jS → jL → Prop) (x1 : Int32) (x2 : Int32) (x3 : Int32) (x4 : Int32) (x5 : Int32) (t0 : Int32) (I : jS) (L : jL) : Prop := cI G l mX12_ofGoer d [.ref 71, .int x1, .int (2 : Int32)] I L (fun r1 I1 L1 => (∃ e63 : Nat, wX12_crossesWith_63 G l d Q e63 x1 x2 x4 x5 t0 (r1 + (x3 / (4 : Int32))) (1 : Int32) (0 : Int32) I1 L1))
set_option maxRecDepth 100000 in
set_option maxHeartbeats 4000000 in
theorem wX12_crossesWith_43_ok {G : jG} {l : Launch} {d : Nat} {Q : Option Value → jS → jL → Prop} : ∀ (x1 : Int32) (x2 : Int32) (x3 : Int32) (x4 : Int32) (x5 : Int32) (t0 : Int32) (I : jS) (L : jL), wX12_crossesWith_43 G l d Q x1 x2 x3 x4 x5 t0 I L → J G l yX12_crossesWith cX12_crossesWith 13 (d + 1) 0 0 43 [some (.ref 71), some (.int x1), some (.int x2), some (.int x3), some (.int x4), some (.int x5), none, none, none, none, none, none, none] [.int t0] (jKS, I, L, jR0) (jQm (some .boolean) Q) := by
  intro x1 x2 x3 x4 x5 t0 I L h
  rw [wX12_crossesWith_43] at h
  refine jr_istore dX12_crossesWith_43 (by decide) rfl ?_
  refine jr_aload_n dX12_crossesWith_45 rfl rfl ?_
  refine jr_iload_n dX12_crossesWith_46 rfl rfl ?_
  refine jr_iconst dX12_crossesWith_47 kic_2 ?_
  refine jr_callV (mc2 := 0) (mc := 0) (ms2 := 0) (ms := 0) vm_X12_225 (av := [.int x1, .int (2 : Int32)]) (st := []) rfl rfl ks_71 (by decide) rfl (Nat.le_of_ble_eq_true rfl) dX12_crossesWith_48 (cI_use (M := (yX12_ofGoer, cX12_ofGoer, 3, some .int)) h ?_)
  intro r1 I1 L1 h
  refine jr_iload_n dX12_crossesWith_51 rfl rfl ?_
  refine jr_iconst dX12_crossesWith_52 kic_4 ?_
  refine jr_idiv dX12_crossesWith_53 (by decide) ?_
  refine jr_iadd dX12_crossesWith_54 ?_
  refine jr_istore dX12_crossesWith_55 (by decide) rfl ?_
  refine jr_iconst dX12_crossesWith_57 kic_1 ?_
  refine jr_istore dX12_crossesWith_58 (by decide) rfl ?_
  refine jr_iconst dX12_crossesWith_60 kic_0 ?_
  refine jr_istore dX12_crossesWith_61 (by decide) rfl ?_
  obtain ⟨e63, h⟩ := h
  exact J.sub (wX12_crossesWith_63_ok  e63 _ _ _ _ _ _ _ _ _ _ h) (jsub_some (jsub_some (jsub_some (jsub_none (jsub_some (jsub_some (jsub_none (jsub_some (jsub_some (jsub_some (jsub_some (jsub_none (jsub_none jsub_nil)))))))))))))
def wX12_crossesWith_15 (G : jG) (l : Launch) (d : Nat) (Q : Option Value → jS → jL → Prop) (x1 : Int32) (x2 : Int32) (x3 : Int32) (x4 : Int32) (t0 : Int32) (I : jS) (L : jL) : Prop := cI G l mX12_ofGoer d [.ref 71, .int x1, .int (0 : Int32)] I L (fun r1 I1 L1 => (if t0 = 0 then (wX12_crossesWith_43 G l d Q x1 x2 x3 x4 t0 (r1 + x3) I1 L1) else (wX12_crossesWith_43 G l d Q x1 x2 x3 x4 t0 (((r1 + x3) + (1 : Int32)) / (2 : Int32)) I1 L1)))
set_option maxRecDepth 100000 in
set_option maxHeartbeats 4000000 in
theorem wX12_crossesWith_15_ok {G : jG} {l : Launch} {d : Nat} {Q : Option Value → jS → jL → Prop} : ∀ (x1 : Int32) (x2 : Int32) (x3 : Int32) (x4 : Int32) (t0 : Int32) (I : jS) (L : jL), wX12_crossesWith_15 G l d Q x1 x2 x3 x4 t0 I L → J G l yX12_crossesWith cX12_crossesWith 13 (d + 1) 0 0 15 [some (.ref 71), some (.int x1), some (.int x2), some (.int x3), some (.int x4), none, none, none, none, none, none, none, none] [.int t0] (jKS, I, L, jR0) (jQm (some .boolean) Q) := by
  intro x1 x2 x3 x4 t0 I L h
  rw [wX12_crossesWith_15] at h
  refine jr_istore dX12_crossesWith_15 (by decide) rfl ?_
  refine jr_aload_n dX12_crossesWith_17 rfl rfl ?_
  refine jr_iload_n dX12_crossesWith_18 rfl rfl ?_
  refine jr_iconst dX12_crossesWith_19 kic_0 ?_
  refine jr_callV (mc2 := 0) (mc := 0) (ms2 := 0) (ms := 0) vm_X12_225 (av := [.int x1, .int (0 : Int32)]) (st := []) rfl rfl ks_71 (by decide) rfl (Nat.le_of_ble_eq_true rfl) dX12_crossesWith_20 (cI_use (M := (yX12_ofGoer, cX12_ofGoer, 3, some .int)) h ?_)
  intro r1 I1 L1 h
  refine jr_iload_n dX12_crossesWith_23 rfl rfl ?_
  refine jr_iadd dX12_crossesWith_24 ?_
  refine jr_istore dX12_crossesWith_25 (by decide) rfl ?_
  refine jr_iload dX12_crossesWith_27 rfl ?_
  refine jr_if_eq dX12_crossesWith_29 (tgt := 41) (by decide) (fun c => ?_) (fun c => ?_)
  · rw [if_pos c] at h
    refine jr_iload dX12_crossesWith_41 rfl ?_
    exact J.sub (wX12_crossesWith_43_ok  _ _ _ _ _ _ _ _ h) (jsub_some (jsub_some (jsub_some (jsub_some (jsub_some (jsub_some (jsub_none (jsub_none (jsub_none (jsub_none (jsub_none (jsub_none (jsub_none jsub_nil)))))))))))))
  · rw [if_neg c] at h
    refine jr_iload dX12_crossesWith_32 rfl ?_
    refine jr_iconst dX12_crossesWith_34 kic_1 ?_
    refine jr_iadd dX12_crossesWith_35 ?_
    refine jr_iconst dX12_crossesWith_36 kic_2 ?_
    refine jr_idiv dX12_crossesWith_37 (by decide) ?_
    refine jr_goto dX12_crossesWith_38 (tgt := 43) (by decide) ?_
    exact J.sub (wX12_crossesWith_43_ok  _ _ _ _ _ _ _ _ h) (jsub_some (jsub_some (jsub_some (jsub_some (jsub_some (jsub_some (jsub_none (jsub_none (jsub_none (jsub_none (jsub_none (jsub_none (jsub_none jsub_nil)))))))))))))
def wX12_crossesWith (G : jG) (l : Launch) (d : Nat) (x1 : Int32) (x2 : Int32) (x3 : Int32) (x4 : Int32) (I : jS) (L : jL) (Q : Option Value → jS → jL → Prop) : Prop := cI G l mX12_ofGoer d [.ref 71, .int x1, .int (1 : Int32)] I L (fun r1 I1 L1 => (if r1 = (1 : Int32) then (wX12_crossesWith_15 G l d Q x1 x2 x3 x4 (1 : Int32) I1 L1) else (wX12_crossesWith_15 G l d Q x1 x2 x3 x4 (0 : Int32) I1 L1)))
set_option maxRecDepth 100000 in
set_option maxHeartbeats 4000000 in
theorem wX12_crossesWith_ok {G : jG} {l : Launch} {d : Nat} {Q : Option Value → jS → jL → Prop} {x1 : Int32} {x2 : Int32} {x3 : Int32} {x4 : Int32} {I : jS} {L : jL} (h : wX12_crossesWith G l d x1 x2 x3 x4 I L Q) : cM G l mX12_crossesWith (d + 1) [.ref 71, .int x1, .int x2, .int x3, .int x4] I L Q := by
  rw [wX12_crossesWith] at h
  show jCall G l yX12_crossesWith cX12_crossesWith 13 (some .boolean) (d + 1) 0 0 _ (jKS, I, L, jR0) _
  refine jCall_of (n0 := 8) (ls := [some (.ref 71), some (.int x1), some (.int x2), some (.int x3), some (.int x4), none, none, none, none, none, none, none, none]) (by decide +kernel) rfl (Nat.le_of_ble_eq_true rfl) (jQm_of ?_)
  refine jr_aload_n dX12_crossesWith_0 rfl rfl ?_
  refine jr_iload_n dX12_crossesWith_1 rfl rfl ?_
  refine jr_iconst dX12_crossesWith_2 kic_1 ?_
  refine jr_callV (mc2 := 0) (mc := 0) (ms2 := 0) (ms := 0) vm_X12_225 (av := [.int x1, .int (1 : Int32)]) (st := []) rfl rfl ks_71 (by decide) rfl (Nat.le_of_ble_eq_true rfl) dX12_crossesWith_3 (cI_use (M := (yX12_ofGoer, cX12_ofGoer, 3, some .int)) h ?_)
  intro r1 I1 L1 h
  refine jr_iconst dX12_crossesWith_6 kic_1 ?_
  refine jr_icmp_ne dX12_crossesWith_7 (tgt := 14) (by decide) (fun c => ?_) (fun c => ?_)
  · rw [if_neg c] at h
    refine jr_iconst dX12_crossesWith_14 kic_0 ?_
    exact J.sub (wX12_crossesWith_15_ok  _ _ _ _ _ _ _ h) (jsub_some (jsub_some (jsub_some (jsub_some (jsub_some (jsub_none (jsub_none (jsub_none (jsub_none (jsub_none (jsub_none (jsub_none (jsub_none jsub_nil)))))))))))))
  · rw [if_pos c] at h
    refine jr_iconst dX12_crossesWith_10 kic_1 ?_
    refine jr_goto dX12_crossesWith_11 (tgt := 15) (by decide) ?_
    exact J.sub (wX12_crossesWith_15_ok  _ _ _ _ _ _ _ h) (jsub_some (jsub_some (jsub_some (jsub_some (jsub_some (jsub_none (jsub_none (jsub_none (jsub_none (jsub_none (jsub_none (jsub_none (jsub_none jsub_nil)))))))))))))
def wX12_crosses (G : jG) (l : Launch) (d : Nat) (x1 : Int32) (x2 : Int32) (I : jS) (L : jL) (Q : Option Value → jS → jL → Prop) : Prop := cI G l mX12_crossesWith d [.ref 71, .int x1, .int x2, .int (0 : Int32), .int (0 : Int32)] I L (fun r1 I1 L1 => ((r1 = 0 ∨ r1 = 1) ∧ Q (some (.int r1)) I1 L1))
set_option maxRecDepth 100000 in
set_option maxHeartbeats 4000000 in
theorem wX12_crosses_ok {G : jG} {l : Launch} {d : Nat} {Q : Option Value → jS → jL → Prop} {x1 : Int32} {x2 : Int32} {I : jS} {L : jL} (h : wX12_crosses G l d x1 x2 I L Q) : cM G l mX12_crosses (d + 1) [.ref 71, .int x1, .int x2] I L Q := by
  rw [wX12_crosses] at h
  show jCall G l yX12_crosses cX12_crosses 3 (some .boolean) (d + 1) 0 0 _ (jKS, I, L, jR0) _
  refine jCall_of (n0 := 0) (ls := [some (.ref 71), some (.int x1), some (.int x2)]) (by decide +kernel) rfl (Nat.le_of_ble_eq_true rfl) (jQm_of ?_)
  refine jr_aload_n dX12_crosses_0 rfl rfl ?_
  refine jr_iload_n dX12_crosses_1 rfl rfl ?_
  refine jr_iload_n dX12_crosses_2 rfl rfl ?_
  refine jr_iconst dX12_crosses_3 kic_0 ?_
  refine jr_iconst dX12_crosses_4 kic_0 ?_
  refine jr_callV (mc2 := 0) (mc := 0) (ms2 := 0) (ms := 0) vm_X12_239 (av := [.int x1, .int x2, .int (0 : Int32), .int (0 : Int32)]) (st := []) rfl rfl ks_71 (by decide) rfl (Nat.le_of_ble_eq_true rfl) dX12_crosses_5 (cI_use (M := (yX12_crossesWith, cX12_crossesWith, 13, some .boolean)) h ?_)
  intro r1 I1 L1 h
  obtain ⟨gz, h⟩ := h
  exact jr_ireturn dX12_crosses_8 ⟨Or.inr (Or.inr (Or.inr ⟨rfl, gz.imp (fun e => by rw [e]) (fun e => by rw [e])⟩)), _, _, rfl, h⟩
def wX12_bytesIs (G : jG) (l : Launch) (d : Nat) (x1 : Int32) (I : jS) (L : jL) (Q : Option Value → jS → jL → Prop) : Prop := cI G l mX12_isShelf d [.int x1] I L (fun r1 I1 L1 => (if r1 = 0 then (Q (some (.int (-1 : Int32))) I1 L1) else (vp_in x1 6 ∧ (if 0 ≤ (I1 89 x1.toNatClampNeg) then (if (I1 89 x1.toNatClampNeg) = (50 : Int32) then (Q (some (.int (1 : Int32))) I1 L1) else (Q (some (.int (-12 : Int32))) I1 L1)) else (Q (some (.int (-11 : Int32))) I1 L1)))))
set_option maxRecDepth 100000 in
set_option maxHeartbeats 4000000 in
theorem wX12_bytesIs_ok {G : jG} {l : Launch} {d : Nat} {Q : Option Value → jS → jL → Prop} {x1 : Int32} {I : jS} {L : jL} (h : wX12_bytesIs G l d x1 I L Q) : cM G l mX12_bytesIs (d + 1) [.ref 71, .int x1] I L Q := by
  rw [wX12_bytesIs] at h
  show jCall G l yX12_bytesIs cX12_bytesIs 2 (some .int) (d + 1) 0 0 _ (jKS, I, L, jR0) _
  refine jCall_of (n0 := 0) (ls := [some (.ref 71), some (.int x1)]) (by decide +kernel) rfl (Nat.le_of_ble_eq_true rfl) (jQm_of ?_)
  refine jr_iload_n dX12_bytesIs_0 rfl rfl ?_
  refine jr_callS (mc2 := 0) (mc := 0) (ms2 := 0) (ms := 0) vm_X12_110 (av := [.int x1]) (st := []) rfl rfl (Nat.le_of_ble_eq_true rfl) dX12_bytesIs_1 (cI_use (M := (yX12_isShelf, cX12_isShelf, 1, some .boolean)) h ?_)
  intro r1 I1 L1 h
  refine jr_if_ne dX12_bytesIs_4 (tgt := 11) (by decide) (fun c => ?_) (fun c => ?_)
  · rw [if_neg c] at h
    refine jr_aload_n dX12_bytesIs_11 rfl rfl ?_
    refine jr_geta ff_X12_68 ks_71 rr_71_49 dX12_bytesIs_12 ?_
    refine jr_iload_n dX12_bytesIs_15 rfl rfl ?_
    obtain ⟨g2, h⟩ := h
    refine jv_iaload rfl rfl ks_89 dX12_bytesIs_16 g2 ?_
    refine jr_if_ge dX12_bytesIs_17 (tgt := 25) (by decide) (fun c => ?_) (fun c => ?_)
    · rw [if_pos c] at h
      refine jr_aload_n dX12_bytesIs_25 rfl rfl ?_
      refine jr_geta ff_X12_68 ks_71 rr_71_49 dX12_bytesIs_26 ?_
      refine jr_iload_n dX12_bytesIs_29 rfl rfl ?_
      refine jv_iaload rfl rfl ks_89 dX12_bytesIs_30 g2 ?_
      refine jr_bipush dX12_bytesIs_31 kbp_50 ?_
      refine jr_icmp_ne dX12_bytesIs_33 (tgt := 40) (by decide) (fun c => ?_) (fun c => ?_)
      · rw [if_neg c] at h
        refine jr_bipush dX12_bytesIs_40 kbp_m12 ?_
        exact jr_ireturn dX12_bytesIs_42 ⟨Or.inr (Or.inl ⟨rfl, _, rfl⟩), _, _, rfl, h⟩
      · rw [if_pos c] at h
        refine jr_iconst dX12_bytesIs_36 kic_1 ?_
        refine jr_goto dX12_bytesIs_37 (tgt := 42) (by decide) ?_
        exact jr_ireturn dX12_bytesIs_42 ⟨Or.inr (Or.inl ⟨rfl, _, rfl⟩), _, _, rfl, h⟩
    · rw [if_neg c] at h
      refine jr_bipush dX12_bytesIs_20 kbp_m11 ?_
      refine jr_goto dX12_bytesIs_22 (tgt := 42) (by decide) ?_
      exact jr_ireturn dX12_bytesIs_42 ⟨Or.inr (Or.inl ⟨rfl, _, rfl⟩), _, _, rfl, h⟩
  · rw [if_pos c] at h
    refine jr_iconst dX12_bytesIs_7 kic_m1 ?_
    refine jr_goto dX12_bytesIs_8 (tgt := 42) (by decide) ?_
    exact jr_ireturn dX12_bytesIs_42 ⟨Or.inr (Or.inl ⟨rfl, _, rfl⟩), _, _, rfl, h⟩
def wX12_orderedOf_2 (G : jG) (l : Launch) (d : Nat) (Q : Option Value → jS → jL → Prop) : Nat → Int32 → Int32 → jS → jL → Prop
  | 0, _, _, _, _ => False
  | n2 + 1, x1, x2, I, L => if (10 : Int32) ≤ x2 then (Q (some (.int x2)) I L) else (vp_in x1 6 ∧ (if (I 90 x1.toNatClampNeg) ≤ x2 then (Q (some (.int x2)) I L) else (vp_in (((60 : Int32) * x1) + x2) 360 ∧ (cI G l mX12_isGoer d [.ref 71, .long (L 91 ((((60 : Int32) * x1) + x2).toNatClampNeg))] I L (fun r3 I3 L3 => (if r3 = 0 then (Q (some (.int x2)) I3 L3) else ((wX12_orderedOf_2 G l d Q n2) x1 (x2 + (1 : Int32)) I3 L3)))))))
set_option maxRecDepth 100000 in
set_option maxHeartbeats 4000000 in
theorem wX12_orderedOf_2_ok {G : jG} {l : Launch} {d : Nat} {Q : Option Value → jS → jL → Prop} : ∀ (n : Nat) (x1 : Int32) (x2 : Int32) (I : jS) (L : jL), wX12_orderedOf_2 G l d Q n x1 x2 I L → J G l yX12_orderedOf cX12_orderedOf 3 (d + 1) 0 0 2 [some (.ref 71), some (.int x1), some (.int x2)] [] (jKS, I, L, jR0) (jQm (some .int) Q) := by
  intro n
  induction n with
  | zero => intro x1 x2 I L h; exact h.elim
  | succ n ih =>
    intro x1 x2 I L h
    rw [wX12_orderedOf_2] at h
    refine jr_iload_n dX12_orderedOf_2 rfl rfl ?_
    refine jr_bipush dX12_orderedOf_3 kbp_10 ?_
    refine jr_icmp_ge dX12_orderedOf_5 (tgt := 42) (by decide) (fun c => ?_) (fun c => ?_)
    · rw [if_pos c] at h
      refine jr_iload_n dX12_orderedOf_42 rfl rfl ?_
      exact jr_ireturn dX12_orderedOf_43 ⟨Or.inr (Or.inl ⟨rfl, _, rfl⟩), _, _, rfl, h⟩
    · rw [if_neg c] at h
      refine jr_iload_n dX12_orderedOf_8 rfl rfl ?_
      refine jr_aload_n dX12_orderedOf_9 rfl rfl ?_
      refine jr_geta ff_X12_71 ks_71 rr_71_50 dX12_orderedOf_10 ?_
      refine jr_iload_n dX12_orderedOf_13 rfl rfl ?_
      obtain ⟨g1, h⟩ := h
      refine jv_iaload rfl rfl ks_90 dX12_orderedOf_14 g1 ?_
      refine jr_icmp_ge dX12_orderedOf_15 (tgt := 42) (by decide) (fun c => ?_) (fun c => ?_)
      · rw [if_pos c] at h
        refine jr_iload_n dX12_orderedOf_42 rfl rfl ?_
        exact jr_ireturn dX12_orderedOf_43 ⟨Or.inr (Or.inl ⟨rfl, _, rfl⟩), _, _, rfl, h⟩
      · rw [if_neg c] at h
        refine jr_aload_n dX12_orderedOf_18 rfl rfl ?_
        refine jr_aload_n dX12_orderedOf_19 rfl rfl ?_
        refine jr_geta ff_X12_74 ks_71 rr_71_51 dX12_orderedOf_20 ?_
        refine jr_bipush dX12_orderedOf_23 kbp_60 ?_
        refine jr_iload_n dX12_orderedOf_25 rfl rfl ?_
        refine jr_imul dX12_orderedOf_26 ?_
        refine jr_iload_n dX12_orderedOf_27 rfl rfl ?_
        refine jr_iadd dX12_orderedOf_28 ?_
        obtain ⟨g2, h⟩ := h
        refine jv_laload rfl rfl ks_91 dX12_orderedOf_29 g2 ?_
        refine jr_callV (mc2 := 0) (mc := 0) (ms2 := 0) (ms := 0) vm_X12_125 (av := [.long (L 91 ((((60 : Int32) * x1) + x2).toNatClampNeg))]) (st := []) rfl rfl ks_71 (by decide) rfl (Nat.le_of_ble_eq_true rfl) dX12_orderedOf_30 (cI_use (M := (yX12_isGoer, cX12_isGoer, 3, some .boolean)) h ?_)
        intro r3 I3 L3 h
        refine jr_if_eq dX12_orderedOf_33 (tgt := 42) (by decide) (fun c => ?_) (fun c => ?_)
        · rw [if_pos c] at h
          refine jr_iload_n dX12_orderedOf_42 rfl rfl ?_
          exact jr_ireturn dX12_orderedOf_43 ⟨Or.inr (Or.inl ⟨rfl, _, rfl⟩), _, _, rfl, h⟩
        · rw [if_neg c] at h
          refine jr_iinc dX12_orderedOf_36 rfl (by rw [kic_1]) (by decide) rfl ?_
          refine jr_goto dX12_orderedOf_39 (tgt := 2) (by decide) ?_
          exact J.sub (ih _ _ _ _ h) (jsub_some (jsub_some (jsub_some jsub_nil)))
def wX12_orderedOf (G : jG) (l : Launch) (d : Nat) (x1 : Int32) (I : jS) (L : jL) (Q : Option Value → jS → jL → Prop) : Prop := ∃ e2 : Nat, wX12_orderedOf_2 G l d Q e2 x1 (0 : Int32) I L
set_option maxRecDepth 100000 in
set_option maxHeartbeats 4000000 in
theorem wX12_orderedOf_ok {G : jG} {l : Launch} {d : Nat} {Q : Option Value → jS → jL → Prop} {x1 : Int32} {I : jS} {L : jL} (h : wX12_orderedOf G l d x1 I L Q) : cM G l mX12_orderedOf (d + 1) [.ref 71, .int x1] I L Q := by
  rw [wX12_orderedOf] at h
  show jCall G l yX12_orderedOf cX12_orderedOf 3 (some .int) (d + 1) 0 0 _ (jKS, I, L, jR0) _
  refine jCall_of (n0 := 1) (ls := [some (.ref 71), some (.int x1), none]) (by decide +kernel) rfl (Nat.le_of_ble_eq_true rfl) (jQm_of ?_)
  refine jr_iconst dX12_orderedOf_0 kic_0 ?_
  refine jr_istore_n dX12_orderedOf_1 rfl (by decide) rfl ?_
  obtain ⟨e2, h⟩ := h
  exact J.sub (wX12_orderedOf_2_ok  e2 _ _ _ _ h) (jsub_some (jsub_some (jsub_some jsub_nil)))
def wX12_goerAt (G : jG) (l : Launch) (d : Nat) (x1 : Int32) (x2 : Int32) (I : jS) (L : jL) (Q : Option Value → jS → jL → Prop) : Prop := vp_in (((60 : Int32) * x1) + x2) 360 ∧ (Q (some (.int ((L 91 ((((60 : Int32) * x1) + x2).toNatClampNeg)).toInt32))) I L)
set_option maxRecDepth 100000 in
set_option maxHeartbeats 4000000 in
theorem wX12_goerAt_ok {G : jG} {l : Launch} {d : Nat} {Q : Option Value → jS → jL → Prop} {x1 : Int32} {x2 : Int32} {I : jS} {L : jL} (h : wX12_goerAt G l d x1 x2 I L Q) : cM G l mX12_goerAt (d + 1) [.ref 71, .int x1, .int x2] I L Q := by
  rw [wX12_goerAt] at h
  show jCall G l yX12_goerAt cX12_goerAt 3 (some .int) (d + 1) 0 0 _ (jKS, I, L, jR0) _
  refine jCall_of (n0 := 0) (ls := [some (.ref 71), some (.int x1), some (.int x2)]) (by decide +kernel) rfl (Nat.le_of_ble_eq_true rfl) (jQm_of ?_)
  refine jr_aload_n dX12_goerAt_0 rfl rfl ?_
  refine jr_geta ff_X12_74 ks_71 rr_71_51 dX12_goerAt_1 ?_
  refine jr_bipush dX12_goerAt_4 kbp_60 ?_
  refine jr_iload_n dX12_goerAt_6 rfl rfl ?_
  refine jr_imul dX12_goerAt_7 ?_
  refine jr_iload_n dX12_goerAt_8 rfl rfl ?_
  refine jr_iadd dX12_goerAt_9 ?_
  obtain ⟨g1, h⟩ := h
  refine jv_laload rfl rfl ks_91 dX12_goerAt_10 g1 ?_
  refine jr_l2i dX12_goerAt_11 ?_
  exact jr_ireturn dX12_goerAt_12 ⟨Or.inr (Or.inl ⟨rfl, _, rfl⟩), _, _, rfl, h⟩
def wX12_overOf_65 (G : jG) (l : Launch) (d : Nat) (k12 : Int32 → Int32 → Int32 → Int32 → Int32 → jS → jL → Prop) (Q : Option Value → jS → jL → Prop) (x1 : Int32) (x2 : Int32) (x3 : Int32) (x4 : Int32) (x5 : Int32) (I : jS) (L : jL) : Prop := k12 x1 x2 x3 x4 (x5 + (1 : Int32)) (u2 I 71 25 (I 71 25)) L
set_option maxRecDepth 100000 in
set_option maxHeartbeats 4000000 in
theorem wX12_overOf_65_ok {G : jG} {l : Launch} {d : Nat} {Q : Option Value → jS → jL → Prop} {k12 : Int32 → Int32 → Int32 → Int32 → Int32 → jS → jL → Prop} (hk12 : ∀ (x1 : Int32) (x2 : Int32) (x3 : Int32) (x4 : Int32) (x5 : Int32) (I : jS) (L : jL), k12 x1 x2 x3 x4 x5 I L → J G l yX12_overOf cX12_overOf 7 (d + 1) 0 0 12 [some (.ref 71), some (.int x1), some (.int x2), some (.int x3), some (.int x4), some (.int x5), none] [] (jKS, I, L, jR0) (jQm (some .int) Q)) : ∀ (x1 : Int32) (x2 : Int32) (x3 : Int32) (x4 : Int32) (x5 : Int32) (I : jS) (L : jL), wX12_overOf_65 G l d k12 Q x1 x2 x3 x4 x5 I L → J G l yX12_overOf cX12_overOf 7 (d + 1) 0 0 65 [some (.ref 71), some (.int x1), some (.int x2), some (.int x3), some (.int x4), some (.int x5), none] [.ref 71] (jKS, I, L, jR0) (jQm (some .int) Q) := by
  intro x1 x2 x3 x4 x5 I L h
  rw [wX12_overOf_65] at h
  refine jr_aload_n dX12_overOf_65 rfl rfl ?_
  refine jv_geti rfl ff_X12_243 ks_71 dX12_overOf_66 ?_
  refine jr_puti ff_X12_243 ks_71 dX12_overOf_69 ?_
  refine jr_iinc dX12_overOf_72 rfl (by rw [kic_1]) (by decide) rfl ?_
  refine jr_goto dX12_overOf_75 (tgt := 12) (by decide) ?_
  exact J.sub (hk12 _ _ _ _ _ _ _ h) (jsub_some (jsub_some (jsub_some (jsub_some (jsub_some (jsub_some (jsub_none jsub_nil)))))))
def wX12_overOf_44 (G : jG) (l : Launch) (d : Nat) (k12 : Int32 → Int32 → Int32 → Int32 → Int32 → jS → jL → Prop) (Q : Option Value → jS → jL → Prop) (x1 : Int32) (x2 : Int32) (x3 : Int32) (x5 : Int32) (x6 : Int32) (t0 : Int32) (t1 : Int32) (I : jS) (L : jL) : Prop := if x6 = 0 then (if 0 ≤ (I 71 25) then (wX12_overOf_65 G l d k12 Q x1 x2 x3 (t0 + t1) x5 I L) else (k12 x1 x2 x3 (t0 + t1) (x5 + (1 : Int32)) (u2 I 71 25 x5) L)) else (wX12_overOf_65 G l d k12 Q x1 x2 x3 (t0 + t1) x5 I L)
set_option maxRecDepth 100000 in
set_option maxHeartbeats 4000000 in
theorem wX12_overOf_44_ok {G : jG} {l : Launch} {d : Nat} {Q : Option Value → jS → jL → Prop} {k12 : Int32 → Int32 → Int32 → Int32 → Int32 → jS → jL → Prop} (hk12 : ∀ (x1 : Int32) (x2 : Int32) (x3 : Int32) (x4 : Int32) (x5 : Int32) (I : jS) (L : jL), k12 x1 x2 x3 x4 x5 I L → J G l yX12_overOf cX12_overOf 7 (d + 1) 0 0 12 [some (.ref 71), some (.int x1), some (.int x2), some (.int x3), some (.int x4), some (.int x5), none] [] (jKS, I, L, jR0) (jQm (some .int) Q)) : ∀ (x1 : Int32) (x2 : Int32) (x3 : Int32) (x5 : Int32) (x6 : Int32) (t0 : Int32) (t1 : Int32) (I : jS) (L : jL), wX12_overOf_44 G l d k12 Q x1 x2 x3 x5 x6 t0 t1 I L → J G l yX12_overOf cX12_overOf 7 (d + 1) 0 0 44 [some (.ref 71), some (.int x1), some (.int x2), some (.int x3), none, some (.int x5), some (.int x6)] [.int t1, .int t0] (jKS, I, L, jR0) (jQm (some .int) Q) := by
  intro x1 x2 x3 x5 x6 t0 t1 I L h
  rw [wX12_overOf_44] at h
  refine jr_iadd dX12_overOf_44 ?_
  refine jr_istore dX12_overOf_45 (by decide) rfl ?_
  refine jr_aload_n dX12_overOf_47 rfl rfl ?_
  refine jr_iload dX12_overOf_48 rfl ?_
  refine jr_if_ne dX12_overOf_50 (tgt := 65) (by decide) (fun c => ?_) (fun c => ?_)
  · rw [if_neg c] at h
    exact J.sub (wX12_overOf_65_ok  hk12 _ _ _ _ _ _ _ h) (jsub_some (jsub_some (jsub_some (jsub_some (jsub_some (jsub_some (jsub_none jsub_nil)))))))
  · rw [if_pos c] at h
    refine jr_aload_n dX12_overOf_53 rfl rfl ?_
    refine jv_geti rfl ff_X12_243 ks_71 dX12_overOf_54 ?_
    refine jr_if_ge dX12_overOf_57 (tgt := 65) (by decide) (fun c => ?_) (fun c => ?_)
    · rw [if_pos c] at h
      exact J.sub (wX12_overOf_65_ok  hk12 _ _ _ _ _ _ _ h) (jsub_some (jsub_some (jsub_some (jsub_some (jsub_some (jsub_some (jsub_none jsub_nil)))))))
    · rw [if_neg c] at h
      refine jr_iload dX12_overOf_60 rfl ?_
      refine jr_goto dX12_overOf_62 (tgt := 69) (by decide) ?_
      refine jr_puti ff_X12_243 ks_71 dX12_overOf_69 ?_
      refine jr_iinc dX12_overOf_72 rfl (by rw [kic_1]) (by decide) rfl ?_
      refine jr_goto dX12_overOf_75 (tgt := 12) (by decide) ?_
      exact J.sub (hk12 _ _ _ _ _ _ _ h) (jsub_some (jsub_some (jsub_some (jsub_some (jsub_some (jsub_some (jsub_none jsub_nil)))))))
def wX12_overOf_12 (G : jG) (l : Launch) (d : Nat) (Q : Option Value → jS → jL → Prop) : Nat → Int32 → Int32 → Int32 → Int32 → Int32 → jS → jL → Prop
  | 0, _, _, _, _, _, _, _ => False
  | n12 + 1, x1, x2, x3, x4, x5, I, L => if x3 ≤ x5 then (Q (some (.int x4)) I L) else (cI G l mX12_goerAt d [.ref 71, .int x1, .int x5] I L (fun r1 I1 L1 => (cI G l mX12_crosses d [.ref 71, .int r1, .int x2] I1 L1 (fun r2 I2 L2 => (if r2 = 0 then (wX12_overOf_44 G l d (fun z0 z1 z2 z3 z4 I L => wX12_overOf_12 G l d Q n12 z0 z1 z2 z3 z4 I L) Q x1 x2 x3 x5 r2 x4 (0 : Int32) I2 L2) else (wX12_overOf_44 G l d (fun z0 z1 z2 z3 z4 I L => wX12_overOf_12 G l d Q n12 z0 z1 z2 z3 z4 I L) Q x1 x2 x3 x5 r2 x4 (1 : Int32) I2 L2))))))
set_option maxRecDepth 100000 in
set_option maxHeartbeats 4000000 in
theorem wX12_overOf_12_ok {G : jG} {l : Launch} {d : Nat} {Q : Option Value → jS → jL → Prop} : ∀ (n : Nat) (x1 : Int32) (x2 : Int32) (x3 : Int32) (x4 : Int32) (x5 : Int32) (I : jS) (L : jL), wX12_overOf_12 G l d Q n x1 x2 x3 x4 x5 I L → J G l yX12_overOf cX12_overOf 7 (d + 1) 0 0 12 [some (.ref 71), some (.int x1), some (.int x2), some (.int x3), some (.int x4), some (.int x5), none] [] (jKS, I, L, jR0) (jQm (some .int) Q) := by
  intro n
  induction n with
  | zero => intro x1 x2 x3 x4 x5 I L h; exact h.elim
  | succ n ih =>
    intro x1 x2 x3 x4 x5 I L h
    rw [wX12_overOf_12] at h
    refine jr_iload dX12_overOf_12 rfl ?_
    refine jr_iload_n dX12_overOf_14 rfl rfl ?_
    refine jr_icmp_ge dX12_overOf_15 (tgt := 78) (by decide) (fun c => ?_) (fun c => ?_)
    · rw [if_pos c] at h
      refine jr_iload dX12_overOf_78 rfl ?_
      exact jr_ireturn dX12_overOf_80 ⟨Or.inr (Or.inl ⟨rfl, _, rfl⟩), _, _, rfl, h⟩
    · rw [if_neg c] at h
      refine jr_aload_n dX12_overOf_18 rfl rfl ?_
      refine jr_aload_n dX12_overOf_19 rfl rfl ?_
      refine jr_iload_n dX12_overOf_20 rfl rfl ?_
      refine jr_iload dX12_overOf_21 rfl ?_
      refine jr_callV (mc2 := 0) (mc := 0) (ms2 := 0) (ms := 0) vm_X12_246 (av := [.int x1, .int x5]) (st := [.ref 71]) rfl rfl ks_71 (by decide) rfl (Nat.le_of_ble_eq_true rfl) dX12_overOf_23 (cI_use (M := (yX12_goerAt, cX12_goerAt, 3, some .int)) h ?_)
      intro r1 I1 L1 h
      refine jr_iload_n dX12_overOf_26 rfl rfl ?_
      refine jr_callV (mc2 := 0) (mc := 0) (ms2 := 0) (ms := 0) vm_X12_249 (av := [.int r1, .int x2]) (st := []) rfl rfl ks_71 (by decide) rfl (Nat.le_of_ble_eq_true rfl) dX12_overOf_27 (cI_use (M := (yX12_crosses, cX12_crosses, 3, some .boolean)) h ?_)
      intro r2 I2 L2 h
      refine jr_istore dX12_overOf_30 (by decide) rfl ?_
      refine jr_iload dX12_overOf_32 rfl ?_
      refine jr_iload dX12_overOf_34 rfl ?_
      refine jr_if_eq dX12_overOf_36 (tgt := 43) (by decide) (fun c => ?_) (fun c => ?_)
      · rw [if_pos c] at h
        refine jr_iconst dX12_overOf_43 kic_0 ?_
        exact J.sub (wX12_overOf_44_ok  ih _ _ _ _ _ _ _ _ _ h) (jsub_some (jsub_some (jsub_some (jsub_some (jsub_none (jsub_some (jsub_some jsub_nil)))))))
      · rw [if_neg c] at h
        refine jr_iconst dX12_overOf_39 kic_1 ?_
        refine jr_goto dX12_overOf_40 (tgt := 44) (by decide) ?_
        exact J.sub (wX12_overOf_44_ok  ih _ _ _ _ _ _ _ _ _ h) (jsub_some (jsub_some (jsub_some (jsub_some (jsub_none (jsub_some (jsub_some jsub_nil)))))))
def wX12_overOf (G : jG) (l : Launch) (d : Nat) (x1 : Int32) (x2 : Int32) (x3 : Int32) (I : jS) (L : jL) (Q : Option Value → jS → jL → Prop) : Prop := ∃ e12 : Nat, wX12_overOf_12 G l d Q e12 x1 x2 x3 (0 : Int32) (0 : Int32) (u2 I 71 25 (-2 : Int32)) L
set_option maxRecDepth 100000 in
set_option maxHeartbeats 4000000 in
theorem wX12_overOf_ok {G : jG} {l : Launch} {d : Nat} {Q : Option Value → jS → jL → Prop} {x1 : Int32} {x2 : Int32} {x3 : Int32} {I : jS} {L : jL} (h : wX12_overOf G l d x1 x2 x3 I L Q) : cM G l mX12_overOf (d + 1) [.ref 71, .int x1, .int x2, .int x3] I L Q := by
  rw [wX12_overOf] at h
  show jCall G l yX12_overOf cX12_overOf 7 (some .int) (d + 1) 0 0 _ (jKS, I, L, jR0) _
  refine jCall_of (n0 := 3) (ls := [some (.ref 71), some (.int x1), some (.int x2), some (.int x3), none, none, none]) (by decide +kernel) rfl (Nat.le_of_ble_eq_true rfl) (jQm_of ?_)
  refine jr_iconst dX12_overOf_0 kic_0 ?_
  refine jr_istore dX12_overOf_1 (by decide) rfl ?_
  refine jr_aload_n dX12_overOf_3 rfl rfl ?_
  refine jr_bipush dX12_overOf_4 kbp_m2 ?_
  refine jr_puti ff_X12_243 ks_71 dX12_overOf_6 ?_
  refine jr_iconst dX12_overOf_9 kic_0 ?_
  refine jr_istore dX12_overOf_10 (by decide) rfl ?_
  obtain ⟨e12, h⟩ := h
  exact J.sub (wX12_overOf_12_ok  e12 _ _ _ _ _ _ _ h) (jsub_some (jsub_some (jsub_some (jsub_some (jsub_some (jsub_some (jsub_none jsub_nil)))))))
def wX12_over (G : jG) (l : Launch) (d : Nat) (x1 : Int32) (x2 : Int32) (x3 : Int32) (I : jS) (L : jL) (Q : Option Value → jS → jL → Prop) : Prop := cI G l mX12_bytesIs d [.ref 71, .int x1] I L (fun r1 I1 L1 => (if r1 = (-1 : Int32) then (Q (some (.int (-1 : Int32))) I1 L1) else (cI G l mX12_isWay d [.long (x2.toInt64)] I1 L1 (fun r2 I2 L2 => (if r2 = 0 then (Q (some (.int (-1 : Int32))) I2 L2) else (cI G l mX12_within d [.long (x3.toInt64), .long (0 : Int64), .long (2 : Int64)] I2 L2 (fun r3 I3 L3 => (if r3 = 0 then (Q (some (.int (-1 : Int32))) I3 L3) else (cI G l mX12_bytesIs d [.ref 71, .int x1] I3 L3 (fun r4 I4 L4 => (if 0 ≤ r4 then (cV G l mX12_begins1 d [.ref 71] I4 L4 (fun I5 L5 => (cI G l mX12_orderedOf d [.ref 71, .int x1] I5 L5 (fun r6 I6 L6 => (cI G l mX12_overOf d [.ref 71, .int x1, .int x2, .int r6] I6 L6 (fun r7 I7 L7 => (if x3 = 0 then (Q (some (.int r7)) I7 L7) else (if x3 = (1 : Int32) then (Q (some (.int (I7 71 25))) I7 L7) else (Q (some (.int ((I7 71 20) - (I7 71 8)))) I7 L7))))))))) else (cI G l mX12_bytesIs d [.ref 71, .int x1] I4 L4 (fun r8 I8 L8 => (Q (some (.int r8)) I8 L8))))))))))))))
set_option maxRecDepth 100000 in
set_option maxHeartbeats 4000000 in
theorem wX12_over_ok {G : jG} {l : Launch} {d : Nat} {Q : Option Value → jS → jL → Prop} {x1 : Int32} {x2 : Int32} {x3 : Int32} {I : jS} {L : jL} (h : wX12_over G l d x1 x2 x3 I L Q) : cM G l mX12_over (d + 1) [.ref 71, .int x1, .int x2, .int x3] I L Q := by
  rw [wX12_over] at h
  show jCall G l yX12_over cX12_over 5 (some .int) (d + 1) 0 0 _ (jKS, I, L, jR0) _
  refine jCall_of (n0 := 1) (ls := [some (.ref 71), some (.int x1), some (.int x2), some (.int x3), none]) (by decide +kernel) rfl (Nat.le_of_ble_eq_true rfl) (jQm_of ?_)
  refine jr_aload_n dX12_over_0 rfl rfl ?_
  refine jr_iload_n dX12_over_1 rfl rfl ?_
  refine jr_callV (mc2 := 0) (mc := 0) (ms2 := 0) (ms := 0) vm_X12_252 (av := [.int x1]) (st := []) rfl rfl ks_71 (by decide) rfl (Nat.le_of_ble_eq_true rfl) dX12_over_2 (cI_use (M := (yX12_bytesIs, cX12_bytesIs, 2, some .int)) h ?_)
  intro r1 I1 L1 h
  refine jr_iconst dX12_over_5 kic_m1 ?_
  refine jr_icmp_eq dX12_over_6 (tgt := 29) (by decide) (fun c => ?_) (fun c => ?_)
  · rw [if_pos c] at h
    refine jr_iconst dX12_over_29 kic_m1 ?_
    exact jr_ireturn dX12_over_30 ⟨Or.inr (Or.inl ⟨rfl, _, rfl⟩), _, _, rfl, h⟩
  · rw [if_neg c] at h
    refine jr_iload_n dX12_over_9 rfl rfl ?_
    refine jr_i2l dX12_over_10 ?_
    refine jr_callS (mc2 := 0) (mc := 0) (ms2 := 0) (ms := 0) vm_X12_255 (av := [.long (x2.toInt64)]) (st := []) rfl rfl (Nat.le_of_ble_eq_true rfl) dX12_over_11 (cI_use (M := (yX12_isWay, cX12_isWay, 2, some .boolean)) h ?_)
    intro r2 I2 L2 h
    refine jr_if_eq dX12_over_14 (tgt := 29) (by decide) (fun c => ?_) (fun c => ?_)
    · rw [if_pos c] at h
      refine jr_iconst dX12_over_29 kic_m1 ?_
      exact jr_ireturn dX12_over_30 ⟨Or.inr (Or.inl ⟨rfl, _, rfl⟩), _, _, rfl, h⟩
    · rw [if_neg c] at h
      refine jr_iload_n dX12_over_17 rfl rfl ?_
      refine jr_i2l dX12_over_18 ?_
      refine jr_lconst dX12_over_19 klc_0 ?_
      refine jr_ldc2 kl_X12_100 dX12_over_20 ?_
      refine jr_callS (mc2 := 0) (mc := 0) (ms2 := 0) (ms := 0) vm_X12_96 (av := [.long (x3.toInt64), .long (0 : Int64), .long (2 : Int64)]) (st := []) rfl rfl (Nat.le_of_ble_eq_true rfl) dX12_over_23 (cI_use (M := (yX12_within, cX12_within, 6, some .boolean)) h ?_)
      intro r3 I3 L3 h
      refine jr_if_ne dX12_over_26 (tgt := 31) (by decide) (fun c => ?_) (fun c => ?_)
      · rw [if_neg c] at h
        refine jr_aload_n dX12_over_31 rfl rfl ?_
        refine jr_iload_n dX12_over_32 rfl rfl ?_
        refine jr_callV (mc2 := 0) (mc := 0) (ms2 := 0) (ms := 0) vm_X12_252 (av := [.int x1]) (st := []) rfl rfl ks_71 (by decide) rfl (Nat.le_of_ble_eq_true rfl) dX12_over_33 (cI_use (M := (yX12_bytesIs, cX12_bytesIs, 2, some .int)) h ?_)
        intro r4 I4 L4 h
        refine jr_if_ge dX12_over_36 (tgt := 45) (by decide) (fun c => ?_) (fun c => ?_)
        · rw [if_pos c] at h
          refine jr_aload_n dX12_over_45 rfl rfl ?_
          refine jr_callV (mc2 := 0) (mc := 0) (ms2 := 0) (ms := 0) vm_X12_146 (av := []) (st := []) rfl rfl ks_71 (by decide) rfl (Nat.le_of_ble_eq_true rfl) dX12_over_46 (cV_use (M := (yX12_begins1, cX12_begins1, 2, none)) h ?_)
          intro I5 L5 h
          refine jr_aload_n dX12_over_49 rfl rfl ?_
          refine jr_iload_n dX12_over_50 rfl rfl ?_
          refine jr_iload_n dX12_over_51 rfl rfl ?_
          refine jr_aload_n dX12_over_52 rfl rfl ?_
          refine jr_iload_n dX12_over_53 rfl rfl ?_
          refine jr_callV (mc2 := 0) (mc := 0) (ms2 := 0) (ms := 0) vm_X12_258 (av := [.int x1]) (st := [.int x2, .int x1, .ref 71]) rfl rfl ks_71 (by decide) rfl (Nat.le_of_ble_eq_true rfl) dX12_over_54 (cI_use (M := (yX12_orderedOf, cX12_orderedOf, 3, some .int)) h ?_)
          intro r6 I6 L6 h
          refine jr_callV (mc2 := 0) (mc := 0) (ms2 := 0) (ms := 0) vm_X12_261 (av := [.int x1, .int x2, .int r6]) (st := []) rfl rfl ks_71 (by decide) rfl (Nat.le_of_ble_eq_true rfl) dX12_over_57 (cI_use (M := (yX12_overOf, cX12_overOf, 7, some .int)) h ?_)
          intro r7 I7 L7 h
          refine jr_istore dX12_over_60 (by decide) rfl ?_
          refine jr_iload_n dX12_over_62 rfl rfl ?_
          refine jr_if_ne dX12_over_63 (tgt := 71) (by decide) (fun c => ?_) (fun c => ?_)
          · rw [if_neg c] at h
            refine jr_iload_n dX12_over_71 rfl rfl ?_
            refine jr_iconst dX12_over_72 kic_1 ?_
            refine jr_icmp_ne dX12_over_73 (tgt := 83) (by decide) (fun c => ?_) (fun c => ?_)
            · rw [if_neg c] at h
              refine jr_aload_n dX12_over_83 rfl rfl ?_
              refine jv_geti rfl ff_X12_210 ks_71 dX12_over_84 ?_
              refine jr_aload_n dX12_over_87 rfl rfl ?_
              refine jv_geti rfl ff_X12_153 ks_71 dX12_over_88 ?_
              refine jr_isub dX12_over_91 ?_
              exact jr_ireturn dX12_over_92 ⟨Or.inr (Or.inl ⟨rfl, _, rfl⟩), _, _, rfl, h⟩
            · rw [if_pos c] at h
              refine jr_aload_n dX12_over_76 rfl rfl ?_
              refine jv_geti rfl ff_X12_243 ks_71 dX12_over_77 ?_
              refine jr_goto dX12_over_80 (tgt := 92) (by decide) ?_
              exact jr_ireturn dX12_over_92 ⟨Or.inr (Or.inl ⟨rfl, _, rfl⟩), _, _, rfl, h⟩
          · rw [if_pos c] at h
            refine jr_iload dX12_over_66 rfl ?_
            refine jr_goto dX12_over_68 (tgt := 92) (by decide) ?_
            exact jr_ireturn dX12_over_92 ⟨Or.inr (Or.inl ⟨rfl, _, rfl⟩), _, _, rfl, h⟩
        · rw [if_neg c] at h
          refine jr_aload_n dX12_over_39 rfl rfl ?_
          refine jr_iload_n dX12_over_40 rfl rfl ?_
          refine jr_callV (mc2 := 0) (mc := 0) (ms2 := 0) (ms := 0) vm_X12_252 (av := [.int x1]) (st := []) rfl rfl ks_71 (by decide) rfl (Nat.le_of_ble_eq_true rfl) dX12_over_41 (cI_use (M := (yX12_bytesIs, cX12_bytesIs, 2, some .int)) h ?_)
          intro r8 I8 L8 h
          exact jr_ireturn dX12_over_44 ⟨Or.inr (Or.inl ⟨rfl, _, rfl⟩), _, _, rfl, h⟩
      · rw [if_pos c] at h
        refine jr_iconst dX12_over_29 kic_m1 ?_
        exact jr_ireturn dX12_over_30 ⟨Or.inr (Or.inl ⟨rfl, _, rfl⟩), _, _, rfl, h⟩
def wX12_bears (G : jG) (l : Launch) (d : Nat) (x1 : Int32) (x2 : Int32) (x3 : Int32) (I : jS) (L : jL) (Q : Option Value → jS → jL → Prop) : Prop := cI G l mX12_bytesIs d [.ref 71, .int x1] I L (fun r1 I1 L1 => (if r1 = (-1 : Int32) then (Q (some (.int (-1 : Int32))) I1 L1) else (cI G l mX12_isWay d [.long (x2.toInt64)] I1 L1 (fun r2 I2 L2 => (if r2 = 0 then (Q (some (.int (-1 : Int32))) I2 L2) else (cI G l mX12_isSquare d [.int x3] I2 L2 (fun r3 I3 L3 => (if r3 = 0 then (Q (some (.int (-1 : Int32))) I3 L3) else (cI G l mX12_bytesIs d [.ref 71, .int x1] I3 L3 (fun r4 I4 L4 => (if 0 ≤ r4 then (cV G l mX12_begins1 d [.ref 71] I4 L4 (fun I5 L5 => (cI G l mX12_orderedOf d [.ref 71, .int x1] I5 L5 (fun r6 I6 L6 => (cI G l mX12_overOf d [.ref 71, .int x1, .int x2, .int r6] I6 L6 (fun r7 I7 L7 => (cI G l mX12_bearsAt d [.ref 71, .int x3] I7 L7 (fun r8 I8 L8 => (Q (some (.int r8)) I8 L8))))))))) else (cI G l mX12_bytesIs d [.ref 71, .int x1] I4 L4 (fun r9 I9 L9 => (Q (some (.int r9)) I9 L9))))))))))))))
set_option maxRecDepth 100000 in
set_option maxHeartbeats 4000000 in
theorem wX12_bears_ok {G : jG} {l : Launch} {d : Nat} {Q : Option Value → jS → jL → Prop} {x1 : Int32} {x2 : Int32} {x3 : Int32} {I : jS} {L : jL} (h : wX12_bears G l d x1 x2 x3 I L Q) : cM G l mX12_bears (d + 1) [.ref 71, .int x1, .int x2, .int x3] I L Q := by
  rw [wX12_bears] at h
  show jCall G l yX12_bears cX12_bears 4 (some .int) (d + 1) 0 0 _ (jKS, I, L, jR0) _
  refine jCall_of (n0 := 0) (ls := [some (.ref 71), some (.int x1), some (.int x2), some (.int x3)]) (by decide +kernel) rfl (Nat.le_of_ble_eq_true rfl) (jQm_of ?_)
  refine jr_aload_n dX12_bears_0 rfl rfl ?_
  refine jr_iload_n dX12_bears_1 rfl rfl ?_
  refine jr_callV (mc2 := 0) (mc := 0) (ms2 := 0) (ms := 0) vm_X12_252 (av := [.int x1]) (st := []) rfl rfl ks_71 (by decide) rfl (Nat.le_of_ble_eq_true rfl) dX12_bears_2 (cI_use (M := (yX12_bytesIs, cX12_bytesIs, 2, some .int)) h ?_)
  intro r1 I1 L1 h
  refine jr_iconst dX12_bears_5 kic_m1 ?_
  refine jr_icmp_eq dX12_bears_6 (tgt := 24) (by decide) (fun c => ?_) (fun c => ?_)
  · rw [if_pos c] at h
    refine jr_iconst dX12_bears_24 kic_m1 ?_
    exact jr_ireturn dX12_bears_25 ⟨Or.inr (Or.inl ⟨rfl, _, rfl⟩), _, _, rfl, h⟩
  · rw [if_neg c] at h
    refine jr_iload_n dX12_bears_9 rfl rfl ?_
    refine jr_i2l dX12_bears_10 ?_
    refine jr_callS (mc2 := 0) (mc := 0) (ms2 := 0) (ms := 0) vm_X12_255 (av := [.long (x2.toInt64)]) (st := []) rfl rfl (Nat.le_of_ble_eq_true rfl) dX12_bears_11 (cI_use (M := (yX12_isWay, cX12_isWay, 2, some .boolean)) h ?_)
    intro r2 I2 L2 h
    refine jr_if_eq dX12_bears_14 (tgt := 24) (by decide) (fun c => ?_) (fun c => ?_)
    · rw [if_pos c] at h
      refine jr_iconst dX12_bears_24 kic_m1 ?_
      exact jr_ireturn dX12_bears_25 ⟨Or.inr (Or.inl ⟨rfl, _, rfl⟩), _, _, rfl, h⟩
    · rw [if_neg c] at h
      refine jr_iload_n dX12_bears_17 rfl rfl ?_
      refine jr_callS (mc2 := 0) (mc := 0) (ms2 := 0) (ms := 0) vm_X12_120 (av := [.int x3]) (st := []) rfl rfl (Nat.le_of_ble_eq_true rfl) dX12_bears_18 (cI_use (M := (yX12_isSquare, cX12_isSquare, 1, some .boolean)) h ?_)
      intro r3 I3 L3 h
      refine jr_if_ne dX12_bears_21 (tgt := 26) (by decide) (fun c => ?_) (fun c => ?_)
      · rw [if_neg c] at h
        refine jr_aload_n dX12_bears_26 rfl rfl ?_
        refine jr_iload_n dX12_bears_27 rfl rfl ?_
        refine jr_callV (mc2 := 0) (mc := 0) (ms2 := 0) (ms := 0) vm_X12_252 (av := [.int x1]) (st := []) rfl rfl ks_71 (by decide) rfl (Nat.le_of_ble_eq_true rfl) dX12_bears_28 (cI_use (M := (yX12_bytesIs, cX12_bytesIs, 2, some .int)) h ?_)
        intro r4 I4 L4 h
        refine jr_if_ge dX12_bears_31 (tgt := 40) (by decide) (fun c => ?_) (fun c => ?_)
        · rw [if_pos c] at h
          refine jr_aload_n dX12_bears_40 rfl rfl ?_
          refine jr_callV (mc2 := 0) (mc := 0) (ms2 := 0) (ms := 0) vm_X12_146 (av := []) (st := []) rfl rfl ks_71 (by decide) rfl (Nat.le_of_ble_eq_true rfl) dX12_bears_41 (cV_use (M := (yX12_begins1, cX12_begins1, 2, none)) h ?_)
          intro I5 L5 h
          refine jr_aload_n dX12_bears_44 rfl rfl ?_
          refine jr_iload_n dX12_bears_45 rfl rfl ?_
          refine jr_iload_n dX12_bears_46 rfl rfl ?_
          refine jr_aload_n dX12_bears_47 rfl rfl ?_
          refine jr_iload_n dX12_bears_48 rfl rfl ?_
          refine jr_callV (mc2 := 0) (mc := 0) (ms2 := 0) (ms := 0) vm_X12_258 (av := [.int x1]) (st := [.int x2, .int x1, .ref 71]) rfl rfl ks_71 (by decide) rfl (Nat.le_of_ble_eq_true rfl) dX12_bears_49 (cI_use (M := (yX12_orderedOf, cX12_orderedOf, 3, some .int)) h ?_)
          intro r6 I6 L6 h
          refine jr_callV (mc2 := 0) (mc := 0) (ms2 := 0) (ms := 0) vm_X12_261 (av := [.int x1, .int x2, .int r6]) (st := []) rfl rfl ks_71 (by decide) rfl (Nat.le_of_ble_eq_true rfl) dX12_bears_52 (cI_use (M := (yX12_overOf, cX12_overOf, 7, some .int)) h ?_)
          intro r7 I7 L7 h
          refine jr_pop dX12_bears_55 rfl ?_
          refine jr_aload_n dX12_bears_56 rfl rfl ?_
          refine jr_iload_n dX12_bears_57 rfl rfl ?_
          refine jr_callV (mc2 := 0) (mc := 0) (ms2 := 0) (ms := 0) vm_X12_149 (av := [.int x3]) (st := []) rfl rfl ks_71 (by decide) rfl (Nat.le_of_ble_eq_true rfl) dX12_bears_58 (cI_use (M := (yX12_bearsAt, cX12_bearsAt, 4, some .int)) h ?_)
          intro r8 I8 L8 h
          exact jr_ireturn dX12_bears_61 ⟨Or.inr (Or.inl ⟨rfl, _, rfl⟩), _, _, rfl, h⟩
        · rw [if_neg c] at h
          refine jr_aload_n dX12_bears_34 rfl rfl ?_
          refine jr_iload_n dX12_bears_35 rfl rfl ?_
          refine jr_callV (mc2 := 0) (mc := 0) (ms2 := 0) (ms := 0) vm_X12_252 (av := [.int x1]) (st := []) rfl rfl ks_71 (by decide) rfl (Nat.le_of_ble_eq_true rfl) dX12_bears_36 (cI_use (M := (yX12_bytesIs, cX12_bytesIs, 2, some .int)) h ?_)
          intro r9 I9 L9 h
          exact jr_ireturn dX12_bears_39 ⟨Or.inr (Or.inl ⟨rfl, _, rfl⟩), _, _, rfl, h⟩
      · rw [if_pos c] at h
        refine jr_iconst dX12_bears_24 kic_m1 ?_
        exact jr_ireturn dX12_bears_25 ⟨Or.inr (Or.inl ⟨rfl, _, rfl⟩), _, _, rfl, h⟩
def wX12_overOrder_8 (G : jG) (l : Launch) (d : Nat) (Q : Option Value → jS → jL → Prop) : Nat → Int32 → Int32 → Int32 → jS → jL → Prop
  | 0, _, _, _, _, _ => False
  | n8 + 1, x1, x2, x3, I, L => if (I 71 6) ≤ x3 then (Q (some (.int x2)) I L) else (vp_in x3 7 ∧ (cI G l mX12_crosses d [.ref 71, .int (I 81 x3.toNatClampNeg), .int x1] I L (fun r2 I2 L2 => (if r2 = 0 then ((wX12_overOrder_8 G l d Q n8) x1 (x2 + (0 : Int32)) (x3 + (1 : Int32)) I2 L2) else ((wX12_overOrder_8 G l d Q n8) x1 (x2 + (1 : Int32)) (x3 + (1 : Int32)) I2 L2)))))
set_option maxRecDepth 100000 in
set_option maxHeartbeats 4000000 in
theorem wX12_overOrder_8_ok {G : jG} {l : Launch} {d : Nat} {Q : Option Value → jS → jL → Prop} : ∀ (n : Nat) (x1 : Int32) (x2 : Int32) (x3 : Int32) (I : jS) (L : jL), wX12_overOrder_8 G l d Q n x1 x2 x3 I L → J G l yX12_overOrder cX12_overOrder 4 (d + 1) 0 0 8 [some (.ref 71), some (.int x1), some (.int x2), some (.int x3)] [] (jKS, I, L, jR0) (jQm (some .int) Q) := by
  intro n
  induction n with
  | zero => intro x1 x2 x3 I L h; exact h.elim
  | succ n ih =>
    intro x1 x2 x3 I L h
    rw [wX12_overOrder_8] at h
    refine jr_iload_n dX12_overOrder_8 rfl rfl ?_
    refine jr_aload_n dX12_overOrder_9 rfl rfl ?_
    refine jv_geti rfl ff_X12_93 ks_71 dX12_overOrder_10 ?_
    refine jr_icmp_ge dX12_overOrder_13 (tgt := 44) (by decide) (fun c => ?_) (fun c => ?_)
    · rw [if_pos c] at h
      refine jr_iload_n dX12_overOrder_44 rfl rfl ?_
      exact jr_ireturn dX12_overOrder_45 ⟨Or.inr (Or.inl ⟨rfl, _, rfl⟩), _, _, rfl, h⟩
    · rw [if_neg c] at h
      refine jr_iload_n dX12_overOrder_16 rfl rfl ?_
      refine jr_aload_n dX12_overOrder_17 rfl rfl ?_
      refine jr_aload_n dX12_overOrder_18 rfl rfl ?_
      refine jr_geta ff_X12_43 ks_71 rr_71_26 dX12_overOrder_19 ?_
      refine jr_iload_n dX12_overOrder_22 rfl rfl ?_
      obtain ⟨g1, h⟩ := h
      refine jv_iaload rfl rfl ks_81 dX12_overOrder_23 g1 ?_
      refine jr_iload_n dX12_overOrder_24 rfl rfl ?_
      refine jr_callV (mc2 := 0) (mc := 0) (ms2 := 0) (ms := 0) vm_X12_249 (av := [.int (I 81 x3.toNatClampNeg), .int x1]) (st := [.int x2]) rfl rfl ks_71 (by decide) rfl (Nat.le_of_ble_eq_true rfl) dX12_overOrder_25 (cI_use (M := (yX12_crosses, cX12_crosses, 3, some .boolean)) h ?_)
      intro r2 I2 L2 h
      refine jr_if_eq dX12_overOrder_28 (tgt := 35) (by decide) (fun c => ?_) (fun c => ?_)
      · rw [if_pos c] at h
        refine jr_iconst dX12_overOrder_35 kic_0 ?_
        refine jr_iadd dX12_overOrder_36 ?_
        refine jr_istore_n dX12_overOrder_37 rfl (by decide) rfl ?_
        refine jr_iinc dX12_overOrder_38 rfl (by rw [kic_1]) (by decide) rfl ?_
        refine jr_goto dX12_overOrder_41 (tgt := 8) (by decide) ?_
        exact J.sub (ih _ _ _ _ _ h) (jsub_some (jsub_some (jsub_some (jsub_some jsub_nil))))
      · rw [if_neg c] at h
        refine jr_iconst dX12_overOrder_31 kic_1 ?_
        refine jr_goto dX12_overOrder_32 (tgt := 36) (by decide) ?_
        refine jr_iadd dX12_overOrder_36 ?_
        refine jr_istore_n dX12_overOrder_37 rfl (by decide) rfl ?_
        refine jr_iinc dX12_overOrder_38 rfl (by rw [kic_1]) (by decide) rfl ?_
        refine jr_goto dX12_overOrder_41 (tgt := 8) (by decide) ?_
        exact J.sub (ih _ _ _ _ _ h) (jsub_some (jsub_some (jsub_some (jsub_some jsub_nil))))
def wX12_overOrder (G : jG) (l : Launch) (d : Nat) (x1 : Int32) (I : jS) (L : jL) (Q : Option Value → jS → jL → Prop) : Prop := cV G l mX12_begins1 d [.ref 71] I L (fun I1 L1 => (∃ e8 : Nat, wX12_overOrder_8 G l d Q e8 x1 (0 : Int32) (0 : Int32) I1 L1))
set_option maxRecDepth 100000 in
set_option maxHeartbeats 4000000 in
theorem wX12_overOrder_ok {G : jG} {l : Launch} {d : Nat} {Q : Option Value → jS → jL → Prop} {x1 : Int32} {I : jS} {L : jL} (h : wX12_overOrder G l d x1 I L Q) : cM G l mX12_overOrder (d + 1) [.ref 71, .int x1] I L Q := by
  rw [wX12_overOrder] at h
  show jCall G l yX12_overOrder cX12_overOrder 4 (some .int) (d + 1) 0 0 _ (jKS, I, L, jR0) _
  refine jCall_of (n0 := 2) (ls := [some (.ref 71), some (.int x1), none, none]) (by decide +kernel) rfl (Nat.le_of_ble_eq_true rfl) (jQm_of ?_)
  refine jr_aload_n dX12_overOrder_0 rfl rfl ?_
  refine jr_callV (mc2 := 0) (mc := 0) (ms2 := 0) (ms := 0) vm_X12_146 (av := []) (st := []) rfl rfl ks_71 (by decide) rfl (Nat.le_of_ble_eq_true rfl) dX12_overOrder_1 (cV_use (M := (yX12_begins1, cX12_begins1, 2, none)) h ?_)
  intro I1 L1 h
  refine jr_iconst dX12_overOrder_4 kic_0 ?_
  refine jr_istore_n dX12_overOrder_5 rfl (by decide) rfl ?_
  refine jr_iconst dX12_overOrder_6 kic_0 ?_
  refine jr_istore_n dX12_overOrder_7 rfl (by decide) rfl ?_
  obtain ⟨e8, h⟩ := h
  exact J.sub (wX12_overOrder_8_ok  e8 _ _ _ _ _ h) (jsub_some (jsub_some (jsub_some (jsub_some jsub_nil))))
def wX12_keepsOrder_7 (G : jG) (l : Launch) (d : Nat) (Q : Option Value → jS → jL → Prop) : Nat → Int32 → jS → jL → Prop
  | 0, _, _, _ => False
  | n7 + 1, x2, I, L => if (I 71 6) ≤ x2 then (Q none I L) else (vp_in x2 7 ∧ ((wX12_keepsOrder_7 G l d Q n7) (x2 + (1 : Int32)) (u2 I 82 x2.toNatClampNeg (I 81 x2.toNatClampNeg)) L))
set_option maxRecDepth 100000 in
set_option maxHeartbeats 4000000 in
theorem wX12_keepsOrder_7_ok {G : jG} {l : Launch} {d : Nat} {Q : Option Value → jS → jL → Prop} : ∀ (n : Nat) (x2 : Int32) (I : jS) (L : jL), wX12_keepsOrder_7 G l d Q n x2 I L → J G l yX12_keepsOrder cX12_keepsOrder 3 (d + 1) 0 0 7 [some (.ref 71), none, some (.int x2)] [] (jKS, I, L, jR0) (jQm (none) Q) := by
  intro n
  induction n with
  | zero => intro x2 I L h; exact h.elim
  | succ n ih =>
    intro x2 I L h
    rw [wX12_keepsOrder_7] at h
    refine jr_iload_n dX12_keepsOrder_7 rfl rfl ?_
    refine jr_aload_n dX12_keepsOrder_8 rfl rfl ?_
    refine jv_geti rfl ff_X12_93 ks_71 dX12_keepsOrder_9 ?_
    refine jr_icmp_ge dX12_keepsOrder_12 (tgt := 33) (by decide) (fun c => ?_) (fun c => ?_)
    · rw [if_pos c] at h
      exact jr_return dX12_keepsOrder_33 ⟨Or.inl ⟨rfl, rfl⟩, _, _, rfl, h⟩
    · rw [if_neg c] at h
      refine jr_aload_n dX12_keepsOrder_15 rfl rfl ?_
      refine jr_geta ff_X12_46 ks_71 rr_71_27 dX12_keepsOrder_16 ?_
      refine jr_iload_n dX12_keepsOrder_19 rfl rfl ?_
      refine jr_aload_n dX12_keepsOrder_20 rfl rfl ?_
      refine jr_geta ff_X12_43 ks_71 rr_71_26 dX12_keepsOrder_21 ?_
      refine jr_iload_n dX12_keepsOrder_24 rfl rfl ?_
      obtain ⟨g1, h⟩ := h
      refine jv_iaload rfl rfl ks_81 dX12_keepsOrder_25 g1 ?_
      refine jr_iastore rfl ks_82 dX12_keepsOrder_26 g1 ?_
      refine jr_iinc dX12_keepsOrder_27 rfl (by rw [kic_1]) (by decide) rfl ?_
      refine jr_goto dX12_keepsOrder_30 (tgt := 7) (by decide) ?_
      exact J.sub (ih _ _ _ h) (jsub_some (jsub_none (jsub_some jsub_nil)))
def wX12_keepsOrder (G : jG) (l : Launch) (d : Nat) (x1 : Int32) (I : jS) (L : jL) (Q : Option Value → jS → jL → Prop) : Prop := ∃ e7 : Nat, wX12_keepsOrder_7 G l d Q e7 (0 : Int32) (u2 I 71 28 x1) L
set_option maxRecDepth 100000 in
set_option maxHeartbeats 4000000 in
theorem wX12_keepsOrder_ok {G : jG} {l : Launch} {d : Nat} {Q : Option Value → jS → jL → Prop} {x1 : Int32} {I : jS} {L : jL} (h : wX12_keepsOrder G l d x1 I L Q) : cM G l mX12_keepsOrder (d + 1) [.ref 71, .int x1] I L Q := by
  rw [wX12_keepsOrder] at h
  show jCall G l yX12_keepsOrder cX12_keepsOrder 3 (none) (d + 1) 0 0 _ (jKS, I, L, jR0) _
  refine jCall_of (n0 := 1) (ls := [some (.ref 71), some (.int x1), none]) (by decide +kernel) rfl (Nat.le_of_ble_eq_true rfl) (jQm_of ?_)
  refine jr_aload_n dX12_keepsOrder_0 rfl rfl ?_
  refine jr_iload_n dX12_keepsOrder_1 rfl rfl ?_
  refine jr_puti ff_X12_265 ks_71 dX12_keepsOrder_2 ?_
  refine jr_iconst dX12_keepsOrder_5 kic_0 ?_
  refine jr_istore_n dX12_keepsOrder_6 rfl (by decide) rfl ?_
  obtain ⟨e7, h⟩ := h
  exact J.sub (wX12_keepsOrder_7_ok  e7 _ _ _ h) (jsub_some (jsub_none (jsub_some jsub_nil)))
def wX12_ordersOn_34 (G : jG) (l : Launch) (d : Nat) (Q : Option Value → jS → jL → Prop) : Nat → Int32 → Int32 → Int32 → Int32 → jS → jL → Prop
  | 0, _, _, _, _, _, _ => False
  | n34 + 1, x1, x2, x3, x4, I, L => if (I 71 6) ≤ x4 then (Q none I L) else (cI G l mX12_isIn d [.int x2, .int x4] I L (fun r1 I1 L1 => (if r1 = 0 then (vp_in x1 7 ∧ (cV G l mX12_ordersOn d [.ref 71, .int (x1 + (1 : Int32)), .int (x2 ||| ((1 : Int32) <<< (x4 &&& 31))), .int x3] (u2 I1 81 x1.toNatClampNeg x4) L1 (fun I3 L3 => ((wX12_ordersOn_34 G l d Q n34) x1 x2 x3 (x4 + (1 : Int32)) I3 L3)))) else ((wX12_ordersOn_34 G l d Q n34) x1 x2 x3 (x4 + (1 : Int32)) I1 L1))))
set_option maxRecDepth 100000 in
set_option maxHeartbeats 4000000 in
theorem wX12_ordersOn_34_ok {G : jG} {l : Launch} {d : Nat} {Q : Option Value → jS → jL → Prop} : ∀ (n : Nat) (x1 : Int32) (x2 : Int32) (x3 : Int32) (x4 : Int32) (I : jS) (L : jL), wX12_ordersOn_34 G l d Q n x1 x2 x3 x4 I L → J G l yX12_ordersOn cX12_ordersOn 5 (d + 1) 0 0 34 [some (.ref 71), some (.int x1), some (.int x2), some (.int x3), some (.int x4)] [] (jKS, I, L, jR0) (jQm (none) Q) := by
  intro n
  induction n with
  | zero => intro x1 x2 x3 x4 I L h; exact h.elim
  | succ n ih =>
    intro x1 x2 x3 x4 I L h
    rw [wX12_ordersOn_34] at h
    refine jr_iload dX12_ordersOn_34 rfl ?_
    refine jr_aload_n dX12_ordersOn_36 rfl rfl ?_
    refine jv_geti rfl ff_X12_93 ks_71 dX12_ordersOn_37 ?_
    refine jr_icmp_ge dX12_ordersOn_40 (tgt := 80) (by decide) (fun c => ?_) (fun c => ?_)
    · rw [if_pos c] at h
      exact jr_return dX12_ordersOn_80 ⟨Or.inl ⟨rfl, rfl⟩, _, _, rfl, h⟩
    · rw [if_neg c] at h
      refine jr_iload_n dX12_ordersOn_43 rfl rfl ?_
      refine jr_iload dX12_ordersOn_44 rfl ?_
      refine jr_callS (mc2 := 0) (mc := 0) (ms2 := 0) (ms := 0) vm_X12_219 (av := [.int x2, .int x4]) (st := []) rfl rfl (Nat.le_of_ble_eq_true rfl) dX12_ordersOn_46 (cI_use (M := (yX12_isIn, cX12_isIn, 2, some .boolean)) h ?_)
      intro r1 I1 L1 h
      refine jr_if_ne dX12_ordersOn_49 (tgt := 74) (by decide) (fun c => ?_) (fun c => ?_)
      · rw [if_neg c] at h
        refine jr_iinc dX12_ordersOn_74 rfl (by rw [kic_1]) (by decide) rfl ?_
        refine jr_goto dX12_ordersOn_77 (tgt := 34) (by decide) ?_
        exact J.sub (ih _ _ _ _ _ _ h) (jsub_some (jsub_some (jsub_some (jsub_some (jsub_some jsub_nil)))))
      · rw [if_pos c] at h
        refine jr_aload_n dX12_ordersOn_52 rfl rfl ?_
        refine jr_geta ff_X12_43 ks_71 rr_71_26 dX12_ordersOn_53 ?_
        refine jr_iload_n dX12_ordersOn_56 rfl rfl ?_
        refine jr_iload dX12_ordersOn_57 rfl ?_
        obtain ⟨g2, h⟩ := h
        refine jr_iastore rfl ks_81 dX12_ordersOn_59 g2 ?_
        refine jr_aload_n dX12_ordersOn_60 rfl rfl ?_
        refine jr_iload_n dX12_ordersOn_61 rfl rfl ?_
        refine jr_iconst dX12_ordersOn_62 kic_1 ?_
        refine jr_iadd dX12_ordersOn_63 ?_
        refine jr_iload_n dX12_ordersOn_64 rfl rfl ?_
        refine jr_iconst dX12_ordersOn_65 kic_1 ?_
        refine jr_iload dX12_ordersOn_66 rfl ?_
        refine jr_ishl dX12_ordersOn_68 ?_
        refine jr_ior dX12_ordersOn_69 ?_
        refine jr_iload_n dX12_ordersOn_70 rfl rfl ?_
        refine jr_callV (mc2 := 0) (mc := 0) (ms2 := 0) (ms := 0) vm_X12_274 (av := [.int (x1 + (1 : Int32)), .int (x2 ||| ((1 : Int32) <<< (x4 &&& 31))), .int x3]) (st := []) rfl rfl ks_71 (by decide) rfl (Nat.le_of_ble_eq_true rfl) dX12_ordersOn_71 (cV_use (M := (yX12_ordersOn, cX12_ordersOn, 5, none)) h ?_)
        intro I3 L3 h
        refine jr_iinc dX12_ordersOn_74 rfl (by rw [kic_1]) (by decide) rfl ?_
        refine jr_goto dX12_ordersOn_77 (tgt := 34) (by decide) ?_
        exact J.sub (ih _ _ _ _ _ _ h) (jsub_some (jsub_some (jsub_some (jsub_some (jsub_some jsub_nil)))))
def wX12_ordersOn (G : jG) (l : Launch) (d : Nat) (x1 : Int32) (x2 : Int32) (x3 : Int32) (I : jS) (L : jL) (Q : Option Value → jS → jL → Prop) : Prop := if x1 = (I 71 6) then (cI G l mX12_overOrder d [.ref 71, .int x3] I L (fun r1 I1 L1 => (if r1 ≤ (I1 71 28) then (Q none I1 L1) else (cV G l mX12_keepsOrder d [.ref 71, .int r1] I1 L1 (fun I2 L2 => (Q none I2 L2)))))) else (∃ e34 : Nat, wX12_ordersOn_34 G l d Q e34 x1 x2 x3 (0 : Int32) I L)
set_option maxRecDepth 100000 in
set_option maxHeartbeats 4000000 in
theorem wX12_ordersOn_ok {G : jG} {l : Launch} {d : Nat} {Q : Option Value → jS → jL → Prop} {x1 : Int32} {x2 : Int32} {x3 : Int32} {I : jS} {L : jL} (h : wX12_ordersOn G l d x1 x2 x3 I L Q) : cM G l mX12_ordersOn (d + 1) [.ref 71, .int x1, .int x2, .int x3] I L Q := by
  rw [wX12_ordersOn] at h
  show jCall G l yX12_ordersOn cX12_ordersOn 5 (none) (d + 1) 0 0 _ (jKS, I, L, jR0) _
  refine jCall_of (n0 := 1) (ls := [some (.ref 71), some (.int x1), some (.int x2), some (.int x3), none]) (by decide +kernel) rfl (Nat.le_of_ble_eq_true rfl) (jQm_of ?_)
  refine jr_iload_n dX12_ordersOn_0 rfl rfl ?_
  refine jr_aload_n dX12_ordersOn_1 rfl rfl ?_
  refine jv_geti rfl ff_X12_93 ks_71 dX12_ordersOn_2 ?_
  refine jr_icmp_ne dX12_ordersOn_5 (tgt := 31) (by decide) (fun c => ?_) (fun c => ?_)
  · rw [if_neg c] at h
    refine jr_iconst dX12_ordersOn_31 kic_0 ?_
    refine jr_istore dX12_ordersOn_32 (by decide) rfl ?_
    obtain ⟨e34, h⟩ := h
    exact J.sub (wX12_ordersOn_34_ok  e34 _ _ _ _ _ _ h) (jsub_some (jsub_some (jsub_some (jsub_some (jsub_some jsub_nil)))))
  · rw [if_pos c] at h
    refine jr_aload_n dX12_ordersOn_8 rfl rfl ?_
    refine jr_iload_n dX12_ordersOn_9 rfl rfl ?_
    refine jr_callV (mc2 := 0) (mc := 0) (ms2 := 0) (ms := 0) vm_X12_268 (av := [.int x3]) (st := []) rfl rfl ks_71 (by decide) rfl (Nat.le_of_ble_eq_true rfl) dX12_ordersOn_10 (cI_use (M := (yX12_overOrder, cX12_overOrder, 4, some .int)) h ?_)
    intro r1 I1 L1 h
    refine jr_istore dX12_ordersOn_13 (by decide) rfl ?_
    refine jr_iload dX12_ordersOn_15 rfl ?_
    refine jr_aload_n dX12_ordersOn_17 rfl rfl ?_
    refine jv_geti rfl ff_X12_265 ks_71 dX12_ordersOn_18 ?_
    refine jr_icmp_le dX12_ordersOn_21 (tgt := 30) (by decide) (fun c => ?_) (fun c => ?_)
    · rw [if_pos c] at h
      exact jr_return dX12_ordersOn_30 ⟨Or.inl ⟨rfl, rfl⟩, _, _, rfl, h⟩
    · rw [if_neg c] at h
      refine jr_aload_n dX12_ordersOn_24 rfl rfl ?_
      refine jr_iload dX12_ordersOn_25 rfl ?_
      refine jr_callV (mc2 := 0) (mc := 0) (ms2 := 0) (ms := 0) vm_X12_271 (av := [.int r1]) (st := []) rfl rfl ks_71 (by decide) rfl (Nat.le_of_ble_eq_true rfl) dX12_ordersOn_27 (cV_use (M := (yX12_keepsOrder, cX12_keepsOrder, 3, none)) h ?_)
      intro I2 L2 h
      exact jr_return dX12_ordersOn_30 ⟨Or.inl ⟨rfl, rfl⟩, _, _, rfl, h⟩
def wX12_all (G : jG) (l : Launch) (d : Nat) (x1 : Int32) (x2 : Int32) (I : jS) (L : jL) (Q : Option Value → jS → jL → Prop) : Prop := cI G l mX12_isWay d [.long (x1.toInt64)] I L (fun r1 I1 L1 => (if r1 = 0 then (Q (some (.int (-1 : Int32))) I1 L1) else (if (-1 : Int32) ≤ x2 then (cV G l mX12_ordersOn d [.ref 71, .int (0 : Int32), .int (0 : Int32), .int x1] (u2 I1 71 28 (-1 : Int32)) L1 (fun I2 L2 => (if 0 ≤ x2 then (if (I2 71 6) ≤ x2 then (Q (some (.int (-2 : Int32))) I2 L2) else (vp_in x2 7 ∧ (Q (some (.int (I2 82 x2.toNatClampNeg))) I2 L2))) else (Q (some (.int (I2 71 28))) I2 L2)))) else (Q (some (.int (-1 : Int32))) I1 L1))))
set_option maxRecDepth 100000 in
set_option maxHeartbeats 4000000 in
theorem wX12_all_ok {G : jG} {l : Launch} {d : Nat} {Q : Option Value → jS → jL → Prop} {x1 : Int32} {x2 : Int32} {I : jS} {L : jL} (h : wX12_all G l d x1 x2 I L Q) : cM G l mX12_all (d + 1) [.ref 71, .int x1, .int x2] I L Q := by
  rw [wX12_all] at h
  show jCall G l yX12_all cX12_all 3 (some .int) (d + 1) 0 0 _ (jKS, I, L, jR0) _
  refine jCall_of (n0 := 0) (ls := [some (.ref 71), some (.int x1), some (.int x2)]) (by decide +kernel) rfl (Nat.le_of_ble_eq_true rfl) (jQm_of ?_)
  refine jr_iload_n dX12_all_0 rfl rfl ?_
  refine jr_i2l dX12_all_1 ?_
  refine jr_callS (mc2 := 0) (mc := 0) (ms2 := 0) (ms := 0) vm_X12_255 (av := [.long (x1.toInt64)]) (st := []) rfl rfl (Nat.le_of_ble_eq_true rfl) dX12_all_2 (cI_use (M := (yX12_isWay, cX12_isWay, 2, some .boolean)) h ?_)
  intro r1 I1 L1 h
  refine jr_if_eq dX12_all_5 (tgt := 13) (by decide) (fun c => ?_) (fun c => ?_)
  · rw [if_pos c] at h
    refine jr_iconst dX12_all_13 kic_m1 ?_
    exact jr_ireturn dX12_all_14 ⟨Or.inr (Or.inl ⟨rfl, _, rfl⟩), _, _, rfl, h⟩
  · rw [if_neg c] at h
    refine jr_iload_n dX12_all_8 rfl rfl ?_
    refine jr_iconst dX12_all_9 kic_m1 ?_
    refine jr_icmp_ge dX12_all_10 (tgt := 15) (by decide) (fun c => ?_) (fun c => ?_)
    · rw [if_pos c] at h
      refine jr_aload_n dX12_all_15 rfl rfl ?_
      refine jr_iconst dX12_all_16 kic_m1 ?_
      refine jr_puti ff_X12_265 ks_71 dX12_all_17 ?_
      refine jr_aload_n dX12_all_20 rfl rfl ?_
      refine jr_iconst dX12_all_21 kic_0 ?_
      refine jr_iconst dX12_all_22 kic_0 ?_
      refine jr_iload_n dX12_all_23 rfl rfl ?_
      refine jr_callV (mc2 := 0) (mc := 0) (ms2 := 0) (ms := 0) vm_X12_274 (av := [.int (0 : Int32), .int (0 : Int32), .int x1]) (st := []) rfl rfl ks_71 (by decide) rfl (Nat.le_of_ble_eq_true rfl) dX12_all_24 (cV_use (M := (yX12_ordersOn, cX12_ordersOn, 5, none)) h ?_)
      intro I2 L2 h
      refine jr_iload_n dX12_all_27 rfl rfl ?_
      refine jr_if_ge dX12_all_28 (tgt := 38) (by decide) (fun c => ?_) (fun c => ?_)
      · rw [if_pos c] at h
        refine jr_iload_n dX12_all_38 rfl rfl ?_
        refine jr_aload_n dX12_all_39 rfl rfl ?_
        refine jv_geti rfl ff_X12_93 ks_71 dX12_all_40 ?_
        refine jr_icmp_ge dX12_all_43 (tgt := 55) (by decide) (fun c => ?_) (fun c => ?_)
        · rw [if_pos c] at h
          refine jr_bipush dX12_all_55 kbp_m2 ?_
          exact jr_ireturn dX12_all_57 ⟨Or.inr (Or.inl ⟨rfl, _, rfl⟩), _, _, rfl, h⟩
        · rw [if_neg c] at h
          refine jr_aload_n dX12_all_46 rfl rfl ?_
          refine jr_geta ff_X12_46 ks_71 rr_71_27 dX12_all_47 ?_
          refine jr_iload_n dX12_all_50 rfl rfl ?_
          obtain ⟨g3, h⟩ := h
          refine jv_iaload rfl rfl ks_82 dX12_all_51 g3 ?_
          refine jr_goto dX12_all_52 (tgt := 57) (by decide) ?_
          exact jr_ireturn dX12_all_57 ⟨Or.inr (Or.inl ⟨rfl, _, rfl⟩), _, _, rfl, h⟩
      · rw [if_neg c] at h
        refine jr_aload_n dX12_all_31 rfl rfl ?_
        refine jv_geti rfl ff_X12_265 ks_71 dX12_all_32 ?_
        refine jr_goto dX12_all_35 (tgt := 57) (by decide) ?_
        exact jr_ireturn dX12_all_57 ⟨Or.inr (Or.inl ⟨rfl, _, rfl⟩), _, _, rfl, h⟩
    · rw [if_neg c] at h
      refine jr_iconst dX12_all_13 kic_m1 ?_
      exact jr_ireturn dX12_all_14 ⟨Or.inr (Or.inl ⟨rfl, _, rfl⟩), _, _, rfl, h⟩
def wX12_rankOf (G : jG) (l : Launch) (d : Nat) (x1 : Int32) (x2 : Int32) (I : jS) (L : jL) (Q : Option Value → jS → jL → Prop) : Prop := if x2 = 0 then (cI G l mX12_ofGoer d [.ref 71, .int x1, .int (0 : Int32)] I L (fun r4 I4 L4 => (Q (some (.int r4)) I4 L4))) else (if x2 = (1 : Int32) then (cI G l mX12_ofGoer d [.ref 71, .int x1, .int (0 : Int32)] I L (fun r3 I3 L3 => (Q (some (.int (-r3))) I3 L3))) else (if x2 = (2 : Int32) then (cI G l mX12_ofGoer d [.ref 71, .int x1, .int (2 : Int32)] I L (fun r1 I1 L1 => (cI G l mX12_ofGoer d [.ref 71, .int x1, .int (0 : Int32)] I1 L1 (fun r2 I2 L2 => (Q (some (.int (r1 - r2))) I2 L2))))) else (Q (some (.int (0 : Int32))) I L)))
set_option maxRecDepth 100000 in
set_option maxHeartbeats 4000000 in
theorem wX12_rankOf_ok {G : jG} {l : Launch} {d : Nat} {Q : Option Value → jS → jL → Prop} {x1 : Int32} {x2 : Int32} {I : jS} {L : jL} (h : wX12_rankOf G l d x1 x2 I L Q) : cM G l mX12_rankOf (d + 1) [.ref 71, .int x1, .int x2] I L Q := by
  rw [wX12_rankOf] at h
  show jCall G l yX12_rankOf cX12_rankOf 3 (some .int) (d + 1) 0 0 _ (jKS, I, L, jR0) _
  refine jCall_of (n0 := 0) (ls := [some (.ref 71), some (.int x1), some (.int x2)]) (by decide +kernel) rfl (Nat.le_of_ble_eq_true rfl) (jQm_of ?_)
  refine jr_iload_n dX12_rankOf_0 rfl rfl ?_
  refine jr_if_ne dX12_rankOf_1 (tgt := 13) (by decide) (fun c => ?_) (fun c => ?_)
  · rw [if_neg c] at h
    refine jr_iload_n dX12_rankOf_13 rfl rfl ?_
    refine jr_iconst dX12_rankOf_14 kic_1 ?_
    refine jr_icmp_ne dX12_rankOf_15 (tgt := 28) (by decide) (fun c => ?_) (fun c => ?_)
    · rw [if_neg c] at h
      refine jr_iload_n dX12_rankOf_28 rfl rfl ?_
      refine jr_iconst dX12_rankOf_29 kic_2 ?_
      refine jr_icmp_ne dX12_rankOf_30 (tgt := 49) (by decide) (fun c => ?_) (fun c => ?_)
      · rw [if_neg c] at h
        refine jr_iconst dX12_rankOf_49 kic_0 ?_
        exact jr_ireturn dX12_rankOf_50 ⟨Or.inr (Or.inl ⟨rfl, _, rfl⟩), _, _, rfl, h⟩
      · rw [if_pos c] at h
        refine jr_aload_n dX12_rankOf_33 rfl rfl ?_
        refine jr_iload_n dX12_rankOf_34 rfl rfl ?_
        refine jr_iconst dX12_rankOf_35 kic_2 ?_
        refine jr_callV (mc2 := 0) (mc := 0) (ms2 := 0) (ms := 0) vm_X12_225 (av := [.int x1, .int (2 : Int32)]) (st := []) rfl rfl ks_71 (by decide) rfl (Nat.le_of_ble_eq_true rfl) dX12_rankOf_36 (cI_use (M := (yX12_ofGoer, cX12_ofGoer, 3, some .int)) h ?_)
        intro r1 I1 L1 h
        refine jr_aload_n dX12_rankOf_39 rfl rfl ?_
        refine jr_iload_n dX12_rankOf_40 rfl rfl ?_
        refine jr_iconst dX12_rankOf_41 kic_0 ?_
        refine jr_callV (mc2 := 0) (mc := 0) (ms2 := 0) (ms := 0) vm_X12_225 (av := [.int x1, .int (0 : Int32)]) (st := [.int r1]) rfl rfl ks_71 (by decide) rfl (Nat.le_of_ble_eq_true rfl) dX12_rankOf_42 (cI_use (M := (yX12_ofGoer, cX12_ofGoer, 3, some .int)) h ?_)
        intro r2 I2 L2 h
        refine jr_isub dX12_rankOf_45 ?_
        refine jr_goto dX12_rankOf_46 (tgt := 50) (by decide) ?_
        exact jr_ireturn dX12_rankOf_50 ⟨Or.inr (Or.inl ⟨rfl, _, rfl⟩), _, _, rfl, h⟩
    · rw [if_pos c] at h
      refine jr_aload_n dX12_rankOf_18 rfl rfl ?_
      refine jr_iload_n dX12_rankOf_19 rfl rfl ?_
      refine jr_iconst dX12_rankOf_20 kic_0 ?_
      refine jr_callV (mc2 := 0) (mc := 0) (ms2 := 0) (ms := 0) vm_X12_225 (av := [.int x1, .int (0 : Int32)]) (st := []) rfl rfl ks_71 (by decide) rfl (Nat.le_of_ble_eq_true rfl) dX12_rankOf_21 (cI_use (M := (yX12_ofGoer, cX12_ofGoer, 3, some .int)) h ?_)
      intro r3 I3 L3 h
      refine jr_ineg dX12_rankOf_24 ?_
      refine jr_goto dX12_rankOf_25 (tgt := 50) (by decide) ?_
      exact jr_ireturn dX12_rankOf_50 ⟨Or.inr (Or.inl ⟨rfl, _, rfl⟩), _, _, rfl, h⟩
  · rw [if_pos c] at h
    refine jr_aload_n dX12_rankOf_4 rfl rfl ?_
    refine jr_iload_n dX12_rankOf_5 rfl rfl ?_
    refine jr_iconst dX12_rankOf_6 kic_0 ?_
    refine jr_callV (mc2 := 0) (mc := 0) (ms2 := 0) (ms := 0) vm_X12_225 (av := [.int x1, .int (0 : Int32)]) (st := []) rfl rfl ks_71 (by decide) rfl (Nat.le_of_ble_eq_true rfl) dX12_rankOf_7 (cI_use (M := (yX12_ofGoer, cX12_ofGoer, 3, some .int)) h ?_)
    intro r4 I4 L4 h
    refine jr_goto dX12_rankOf_10 (tgt := 50) (by decide) ?_
    exact jr_ireturn dX12_rankOf_50 ⟨Or.inr (Or.inl ⟨rfl, _, rfl⟩), _, _, rfl, h⟩

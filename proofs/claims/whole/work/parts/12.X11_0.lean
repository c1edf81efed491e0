def wX11_goer (G : jG) (l : Launch) (d : Nat) (x1 : Int32) (x2 : Int32) (I : jS) (L : jL) (Q : Option Value → jS → jL → Prop) : Prop := cI G l mX7_allows d [.ref 1, .int (4 : Int32), .int x1] I L (fun r1 I1 L1 => (if r1 = 0 then (Q (some (.int (-1 : Int32))) I1 L1) else (cI G l mX7_allows d [.ref 1, .int (6 : Int32), .int x2] I1 L1 (fun r2 I2 L2 => (if r2 = 0 then (Q (some (.int (-1 : Int32))) I2 L2) else (if (I2 1 1) < (7 : Int32) then (cI G l mX7_add d [.ref 1, .int x1, .int x2, .int (2 : Int32)] I2 L2 (fun r3 I3 L3 => (Q (some (.int r3)) I3 L3))) else (Q (some (.int (-3 : Int32))) I2 L2)))))))
set_option maxRecDepth 100000 in
set_option maxHeartbeats 4000000 in
theorem wX11_goer_ok {G : jG} {l : Launch} {d : Nat} {Q : Option Value → jS → jL → Prop} {x1 : Int32} {x2 : Int32} {I : jS} {L : jL} (h : wX11_goer G l d x1 x2 I L Q) : cM G l mX11_goer (d + 1) [.ref 0, .int x1, .int x2] I L Q := by
  rw [wX11_goer] at h
  show jCall G l yX11_goer cX11_goer 3 (some .int) (d + 1) 0 0 _ (jKS, I, L, jR0) _
  refine jCall_of (n0 := 0) (ls := [some (.ref 0), some (.int x1), some (.int x2)]) (by decide +kernel) rfl (Nat.le_of_ble_eq_true rfl) (jQm_of ?_)
  refine jr_aload_n dX11_goer_0 rfl rfl ?_
  refine jr_geta ff_X11_10 ks_0 rr_0_0 dX11_goer_1 ?_
  refine jr_iconst dX11_goer_4 kic_4 ?_
  refine jr_iload_n dX11_goer_5 rfl rfl ?_
  refine jr_callV (mc2 := 0) (mc := 0) (ms2 := 0) (ms := 0) vm_X11_83 (av := [.int (4 : Int32), .int x1]) (st := []) rfl rfl ks_1 (by decide) rfl (Nat.le_of_ble_eq_true rfl) dX11_goer_6 (cI_use (M := (yX7_allows, cX7_allows, 3, some .boolean)) h ?_)
  intro r1 I1 L1 h
  refine jr_if_eq dX11_goer_9 (tgt := 25) (by decide) (fun c => ?_) (fun c => ?_)
  · rw [if_pos c] at h
    refine jr_iconst dX11_goer_25 kic_m1 ?_
    exact jr_ireturn dX11_goer_26 ⟨Or.inr (Or.inl ⟨rfl, _, rfl⟩), _, _, rfl, h⟩
  · rw [if_neg c] at h
    refine jr_aload_n dX11_goer_12 rfl rfl ?_
    refine jr_geta ff_X11_10 ks_0 rr_0_0 dX11_goer_13 ?_
    refine jr_bipush dX11_goer_16 kbp_6 ?_
    refine jr_iload_n dX11_goer_18 rfl rfl ?_
    refine jr_callV (mc2 := 0) (mc := 0) (ms2 := 0) (ms := 0) vm_X11_83 (av := [.int (6 : Int32), .int x2]) (st := []) rfl rfl ks_1 (by decide) rfl (Nat.le_of_ble_eq_true rfl) dX11_goer_19 (cI_use (M := (yX7_allows, cX7_allows, 3, some .boolean)) h ?_)
    intro r2 I2 L2 h
    refine jr_if_ne dX11_goer_22 (tgt := 27) (by decide) (fun c => ?_) (fun c => ?_)
    · rw [if_neg c] at h
      refine jr_aload_n dX11_goer_27 rfl rfl ?_
      refine jr_geta ff_X11_10 ks_0 rr_0_0 dX11_goer_28 ?_
      refine jv_geti rfl ff_X11_87 ks_1 dX11_goer_31 ?_
      refine jr_bipush dX11_goer_34 kbp_7 ?_
      refine jr_icmp_lt dX11_goer_36 (tgt := 42) (by decide) (fun c => ?_) (fun c => ?_)
      · rw [if_pos c] at h
        refine jr_aload_n dX11_goer_42 rfl rfl ?_
        refine jr_geta ff_X11_10 ks_0 rr_0_0 dX11_goer_43 ?_
        refine jr_iload_n dX11_goer_46 rfl rfl ?_
        refine jr_iload_n dX11_goer_47 rfl rfl ?_
        refine jr_iconst dX11_goer_48 kic_2 ?_
        refine jr_callV (mc2 := 0) (mc := 0) (ms2 := 0) (ms := 0) vm_X11_91 (av := [.int x1, .int x2, .int (2 : Int32)]) (st := []) rfl rfl ks_1 (by decide) rfl (Nat.le_of_ble_eq_true rfl) dX11_goer_49 (cI_use (M := (yX7_add, cX7_add, 5, some .int)) h ?_)
        intro r3 I3 L3 h
        exact jr_ireturn dX11_goer_52 ⟨Or.inr (Or.inl ⟨rfl, _, rfl⟩), _, _, rfl, h⟩
      · rw [if_neg c] at h
        refine jr_bipush dX11_goer_39 kbp_m3 ?_
        exact jr_ireturn dX11_goer_41 ⟨Or.inr (Or.inl ⟨rfl, _, rfl⟩), _, _, rfl, h⟩
    · rw [if_pos c] at h
      refine jr_iconst dX11_goer_25 kic_m1 ?_
      exact jr_ireturn dX11_goer_26 ⟨Or.inr (Or.inl ⟨rfl, _, rfl⟩), _, _, rfl, h⟩
def wX11_goers_53 (G : jG) (l : Launch) (d : Nat) (Q : Option Value → jS → jL → Prop) : Nat → Int32 → Int32 → Int32 → Int32 → jS → jL → Prop
  | 0, _, _, _, _, _, _ => False
  | n53 + 1, x1, x3, x4, x5, I, L => if x3 ≤ x4 then (Q (some (.int x4)) I L) else (cI G l mX9_hasSpan d [.ref 57, .int x1, .int x5, .int (3 : Int32)] I L (fun r1 I1 L1 => (if r1 = 0 then (Q (some (.int x4)) I1 L1) else (cI G l mX11_comes d [.ref 0, .int x1, .int x5] I1 L1 (fun r2 I2 L2 => (if r2 = 0 then (Q (some (.int x4)) I2 L2) else ((wX11_goers_53 G l d Q n53) x1 x3 (x4 + (1 : Int32)) (x5 + (3 : Int32)) I2 L2)))))))
set_option maxRecDepth 100000 in
set_option maxHeartbeats 4000000 in
theorem wX11_goers_53_ok {G : jG} {l : Launch} {d : Nat} {Q : Option Value → jS → jL → Prop} : ∀ (n : Nat) (x1 : Int32) (x3 : Int32) (x4 : Int32) (x5 : Int32) (I : jS) (L : jL), wX11_goers_53 G l d Q n x1 x3 x4 x5 I L → J G l yX11_goers cX11_goers 6 (d + 1) 0 0 53 [some (.ref 0), some (.int x1), none, some (.int x3), some (.int x4), some (.int x5)] [] (jKS, I, L, jR0) (jQm (some .int) Q) := by
  intro n
  induction n with
  | zero => intro x1 x3 x4 x5 I L h; exact h.elim
  | succ n ih =>
    intro x1 x3 x4 x5 I L h
    rw [wX11_goers_53] at h
    refine jr_iload dX11_goers_53 rfl ?_
    refine jr_iload_n dX11_goers_55 rfl rfl ?_
    refine jr_icmp_ge dX11_goers_56 (tgt := 92) (by decide) (fun c => ?_) (fun c => ?_)
    · rw [if_pos c] at h
      refine jr_iload dX11_goers_92 rfl ?_
      exact jr_ireturn dX11_goers_94 ⟨Or.inr (Or.inl ⟨rfl, _, rfl⟩), _, _, rfl, h⟩
    · rw [if_neg c] at h
      refine jr_aload_n dX11_goers_59 rfl rfl ?_
      refine jr_geta ff_X11_72 ks_0 rr_0_8 dX11_goers_60 ?_
      refine jr_iload_n dX11_goers_63 rfl rfl ?_
      refine jr_iload dX11_goers_64 rfl ?_
      refine jr_iconst dX11_goers_66 kic_3 ?_
      refine jr_callV (mc2 := 0) (mc := 0) (ms2 := 0) (ms := 0) vm_X11_105 (av := [.int x1, .int x5, .int (3 : Int32)]) (st := []) rfl rfl ks_57 (by decide) rfl (Nat.le_of_ble_eq_true rfl) dX11_goers_67 (cI_use (M := (yX9_hasSpan, cX9_hasSpan, 5, some .boolean)) h ?_)
      intro r1 I1 L1 h
      refine jr_if_eq dX11_goers_70 (tgt := 92) (by decide) (fun c => ?_) (fun c => ?_)
      · rw [if_pos c] at h
        refine jr_iload dX11_goers_92 rfl ?_
        exact jr_ireturn dX11_goers_94 ⟨Or.inr (Or.inl ⟨rfl, _, rfl⟩), _, _, rfl, h⟩
      · rw [if_neg c] at h
        refine jr_aload_n dX11_goers_73 rfl rfl ?_
        refine jr_iload_n dX11_goers_74 rfl rfl ?_
        refine jr_iload dX11_goers_75 rfl ?_
        refine jr_callV (mc2 := 0) (mc := 0) (ms2 := 0) (ms := 0) vm_X11_109 (av := [.int x1, .int x5]) (st := []) rfl rfl ks_0 (by decide) rfl (Nat.le_of_ble_eq_true rfl) dX11_goers_77 (cI_use (M := (yX11_comes, cX11_comes, 6, some .boolean)) h ?_)
        intro r2 I2 L2 h
        refine jr_if_eq dX11_goers_80 (tgt := 92) (by decide) (fun c => ?_) (fun c => ?_)
        · rw [if_pos c] at h
          refine jr_iload dX11_goers_92 rfl ?_
          exact jr_ireturn dX11_goers_94 ⟨Or.inr (Or.inl ⟨rfl, _, rfl⟩), _, _, rfl, h⟩
        · rw [if_neg c] at h
          refine jr_iinc dX11_goers_83 rfl (by rw [kic_1]) (by decide) rfl ?_
          refine jr_iinc dX11_goers_86 rfl (by rw [kic_3]) (by decide) rfl ?_
          refine jr_goto dX11_goers_89 (tgt := 53) (by decide) ?_
          exact J.sub (ih _ _ _ _ _ _ h) (jsub_some (jsub_some (jsub_none (jsub_some (jsub_some (jsub_some jsub_nil))))))
def wX11_goers (G : jG) (l : Launch) (d : Nat) (x1 : Int32) (x2 : Int32) (x3 : Int32) (I : jS) (L : jL) (Q : Option Value → jS → jL → Prop) : Prop := cI G l mX11_isShelf d [.int x1] I L (fun r1 I1 L1 => (if r1 = 0 then (Q (some (.int (-1 : Int32))) I1 L1) else (if x3 < (1 : Int32) then (Q (some (.int (-1 : Int32))) I1 L1) else (if x3 ≤ (7 : Int32) then (cI G l mX9_isEmpty d [.ref 57, .int x1] I1 L1 (fun r2 I2 L2 => (if r2 = 0 then (cI G l mX9_isBytes d [.ref 57, .int x1] I2 L2 (fun r3 I3 L3 => (if r3 = 0 then (Q (some (.int (-12 : Int32))) I3 L3) else (∃ e53 : Nat, wX11_goers_53 G l d Q e53 x1 x3 (0 : Int32) x2 I3 L3)))) else (Q (some (.int (0 : Int32))) I2 L2)))) else (Q (some (.int (-1 : Int32))) I1 L1)))))
set_option maxRecDepth 100000 in
set_option maxHeartbeats 4000000 in
theorem wX11_goers_ok {G : jG} {l : Launch} {d : Nat} {Q : Option Value → jS → jL → Prop} {x1 : Int32} {x2 : Int32} {x3 : Int32} {I : jS} {L : jL} (h : wX11_goers G l d x1 x2 x3 I L Q) : cM G l mX11_goers (d + 1) [.ref 0, .int x1, .int x2, .int x3] I L Q := by
  rw [wX11_goers] at h
  show jCall G l yX11_goers cX11_goers 6 (some .int) (d + 1) 0 0 _ (jKS, I, L, jR0) _
  refine jCall_of (n0 := 2) (ls := [some (.ref 0), some (.int x1), some (.int x2), some (.int x3), none, none]) (by decide +kernel) rfl (Nat.le_of_ble_eq_true rfl) (jQm_of ?_)
  refine jr_iload_n dX11_goers_0 rfl rfl ?_
  refine jr_callS (mc2 := 0) (mc := 0) (ms2 := 0) (ms := 0) vm_X11_95 (av := [.int x1]) (st := []) rfl rfl (Nat.le_of_ble_eq_true rfl) dX11_goers_1 (cI_use (M := (yX11_isShelf, cX11_isShelf, 1, some .boolean)) h ?_)
  intro r1 I1 L1 h
  refine jr_if_eq dX11_goers_4 (tgt := 18) (by decide) (fun c => ?_) (fun c => ?_)
  · rw [if_pos c] at h
    refine jr_iconst dX11_goers_18 kic_m1 ?_
    exact jr_ireturn dX11_goers_19 ⟨Or.inr (Or.inl ⟨rfl, _, rfl⟩), _, _, rfl, h⟩
  · rw [if_neg c] at h
    refine jr_iload_n dX11_goers_7 rfl rfl ?_
    refine jr_iconst dX11_goers_8 kic_1 ?_
    refine jr_icmp_lt dX11_goers_9 (tgt := 18) (by decide) (fun c => ?_) (fun c => ?_)
    · rw [if_pos c] at h
      refine jr_iconst dX11_goers_18 kic_m1 ?_
      exact jr_ireturn dX11_goers_19 ⟨Or.inr (Or.inl ⟨rfl, _, rfl⟩), _, _, rfl, h⟩
    · rw [if_neg c] at h
      refine jr_iload_n dX11_goers_12 rfl rfl ?_
      refine jr_bipush dX11_goers_13 kbp_7 ?_
      refine jr_icmp_le dX11_goers_15 (tgt := 20) (by decide) (fun c => ?_) (fun c => ?_)
      · rw [if_pos c] at h
        refine jr_aload_n dX11_goers_20 rfl rfl ?_
        refine jr_geta ff_X11_72 ks_0 rr_0_8 dX11_goers_21 ?_
        refine jr_iload_n dX11_goers_24 rfl rfl ?_
        refine jr_callV (mc2 := 0) (mc := 0) (ms2 := 0) (ms := 0) vm_X11_99 (av := [.int x1]) (st := []) rfl rfl ks_57 (by decide) rfl (Nat.le_of_ble_eq_true rfl) dX11_goers_25 (cI_use (M := (yX9_isEmpty, cX9_isEmpty, 2, some .boolean)) h ?_)
        intro r2 I2 L2 h
        refine jr_if_eq dX11_goers_28 (tgt := 33) (by decide) (fun c => ?_) (fun c => ?_)
        · rw [if_pos c] at h
          refine jr_aload_n dX11_goers_33 rfl rfl ?_
          refine jr_geta ff_X11_72 ks_0 rr_0_8 dX11_goers_34 ?_
          refine jr_iload_n dX11_goers_37 rfl rfl ?_
          refine jr_callV (mc2 := 0) (mc := 0) (ms2 := 0) (ms := 0) vm_X11_102 (av := [.int x1]) (st := []) rfl rfl ks_57 (by decide) rfl (Nat.le_of_ble_eq_true rfl) dX11_goers_38 (cI_use (M := (yX9_isBytes, cX9_isBytes, 2, some .boolean)) h ?_)
          intro r3 I3 L3 h
          refine jr_if_ne dX11_goers_41 (tgt := 47) (by decide) (fun c => ?_) (fun c => ?_)
          · rw [if_neg c] at h
            refine jr_iconst dX11_goers_47 kic_0 ?_
            refine jr_istore dX11_goers_48 (by decide) rfl ?_
            refine jr_iload_n dX11_goers_50 rfl rfl ?_
            refine jr_istore dX11_goers_51 (by decide) rfl ?_
            obtain ⟨e53, h⟩ := h
            exact J.sub (wX11_goers_53_ok  e53 _ _ _ _ _ _ h) (jsub_some (jsub_some (jsub_none (jsub_some (jsub_some (jsub_some jsub_nil))))))
          · rw [if_pos c] at h
            refine jr_bipush dX11_goers_44 kbp_m12 ?_
            exact jr_ireturn dX11_goers_46 ⟨Or.inr (Or.inl ⟨rfl, _, rfl⟩), _, _, rfl, h⟩
        · rw [if_neg c] at h
          refine jr_iconst dX11_goers_31 kic_0 ?_
          exact jr_ireturn dX11_goers_32 ⟨Or.inr (Or.inl ⟨rfl, _, rfl⟩), _, _, rfl, h⟩
      · rw [if_neg c] at h
        refine jr_iconst dX11_goers_18 kic_m1 ?_
        exact jr_ireturn dX11_goers_19 ⟨Or.inr (Or.inl ⟨rfl, _, rfl⟩), _, _, rfl, h⟩
def wX11_mend (G : jG) (l : Launch) (d : Nat) (x1 : Int32) (x2 : Int32) (x3 : Int32) (I : jS) (L : jL) (Q : Option Value → jS → jL → Prop) : Prop := cI G l mX7_has d [.ref 1, .int x1, .int x2] I L (fun r1 I1 L1 => (if r1 = 0 then (Q (some (.int (-1 : Int32))) I1 L1) else (cI G l mX7_allows d [.ref 1, .int x2, .int x3] I1 L1 (fun r2 I2 L2 => (if r2 = 0 then (Q (some (.int (-1 : Int32))) I2 L2) else (cI G l mX7_get d [.ref 1, .int x1, .int x2] I2 L2 (fun r3 I3 L3 => (if r3 = x3 then (Q (some (.int r3)) I3 L3) else (cV G l mX7_set d [.ref 1, .int x1, .int x2, .int x3] I3 L3 (fun I4 L4 => (cV G l mX2_add d [.ref 12, .int x1, .int x2, .int r3, .int x3] I4 L4 (fun I5 L5 => (Q (some (.int r3)) I5 L5)))))))))))))
set_option maxRecDepth 100000 in
set_option maxHeartbeats 4000000 in
theorem wX11_mend_ok {G : jG} {l : Launch} {d : Nat} {Q : Option Value → jS → jL → Prop} {x1 : Int32} {x2 : Int32} {x3 : Int32} {I : jS} {L : jL} (h : wX11_mend G l d x1 x2 x3 I L Q) : cM G l mX11_mend (d + 1) [.ref 0, .int x1, .int x2, .int x3] I L Q := by
  rw [wX11_mend] at h
  show jCall G l yX11_mend cX11_mend 5 (some .int) (d + 1) 0 0 _ (jKS, I, L, jR0) _
  refine jCall_of (n0 := 1) (ls := [some (.ref 0), some (.int x1), some (.int x2), some (.int x3), none]) (by decide +kernel) rfl (Nat.le_of_ble_eq_true rfl) (jQm_of ?_)
  refine jr_aload_n dX11_mend_0 rfl rfl ?_
  refine jr_geta ff_X11_10 ks_0 rr_0_0 dX11_mend_1 ?_
  refine jr_iload_n dX11_mend_4 rfl rfl ?_
  refine jr_iload_n dX11_mend_5 rfl rfl ?_
  refine jr_callV (mc2 := 0) (mc := 0) (ms2 := 0) (ms := 0) vm_X11_112 (av := [.int x1, .int x2]) (st := []) rfl rfl ks_1 (by decide) rfl (Nat.le_of_ble_eq_true rfl) dX11_mend_6 (cI_use (M := (yX7_has, cX7_has, 3, some .boolean)) h ?_)
  intro r1 I1 L1 h
  refine jr_if_eq dX11_mend_9 (tgt := 24) (by decide) (fun c => ?_) (fun c => ?_)
  · rw [if_pos c] at h
    refine jr_iconst dX11_mend_24 kic_m1 ?_
    exact jr_ireturn dX11_mend_25 ⟨Or.inr (Or.inl ⟨rfl, _, rfl⟩), _, _, rfl, h⟩
  · rw [if_neg c] at h
    refine jr_aload_n dX11_mend_12 rfl rfl ?_
    refine jr_geta ff_X11_10 ks_0 rr_0_0 dX11_mend_13 ?_
    refine jr_iload_n dX11_mend_16 rfl rfl ?_
    refine jr_iload_n dX11_mend_17 rfl rfl ?_
    refine jr_callV (mc2 := 0) (mc := 0) (ms2 := 0) (ms := 0) vm_X11_83 (av := [.int x2, .int x3]) (st := []) rfl rfl ks_1 (by decide) rfl (Nat.le_of_ble_eq_true rfl) dX11_mend_18 (cI_use (M := (yX7_allows, cX7_allows, 3, some .boolean)) h ?_)
    intro r2 I2 L2 h
    refine jr_if_ne dX11_mend_21 (tgt := 26) (by decide) (fun c => ?_) (fun c => ?_)
    · rw [if_neg c] at h
      refine jr_aload_n dX11_mend_26 rfl rfl ?_
      refine jr_geta ff_X11_10 ks_0 rr_0_0 dX11_mend_27 ?_
      refine jr_iload_n dX11_mend_30 rfl rfl ?_
      refine jr_iload_n dX11_mend_31 rfl rfl ?_
      refine jr_callV (mc2 := 0) (mc := 0) (ms2 := 0) (ms := 0) vm_X11_115 (av := [.int x1, .int x2]) (st := []) rfl rfl ks_1 (by decide) rfl (Nat.le_of_ble_eq_true rfl) dX11_mend_32 (cI_use (M := (yX7_get, cX7_get, 4, some .int)) h ?_)
      intro r3 I3 L3 h
      refine jr_istore dX11_mend_35 (by decide) rfl ?_
      refine jr_iload dX11_mend_37 rfl ?_
      refine jr_iload_n dX11_mend_39 rfl rfl ?_
      refine jr_icmp_eq dX11_mend_40 (tgt := 65) (by decide) (fun c => ?_) (fun c => ?_)
      · rw [if_pos c] at h
        refine jr_iload dX11_mend_65 rfl ?_
        exact jr_ireturn dX11_mend_67 ⟨Or.inr (Or.inl ⟨rfl, _, rfl⟩), _, _, rfl, h⟩
      · rw [if_neg c] at h
        refine jr_aload_n dX11_mend_43 rfl rfl ?_
        refine jr_geta ff_X11_10 ks_0 rr_0_0 dX11_mend_44 ?_
        refine jr_iload_n dX11_mend_47 rfl rfl ?_
        refine jr_iload_n dX11_mend_48 rfl rfl ?_
        refine jr_iload_n dX11_mend_49 rfl rfl ?_
        refine jr_callV (mc2 := 0) (mc := 0) (ms2 := 0) (ms := 0) vm_X11_119 (av := [.int x1, .int x2, .int x3]) (st := []) rfl rfl ks_1 (by decide) rfl (Nat.le_of_ble_eq_true rfl) dX11_mend_50 (cV_use (M := (yX7_set, cX7_set, 4, none)) h ?_)
        intro I4 L4 h
        refine jr_aload_n dX11_mend_53 rfl rfl ?_
        refine jr_geta ff_X11_19 ks_0 rr_0_1 dX11_mend_54 ?_
        refine jr_iload_n dX11_mend_57 rfl rfl ?_
        refine jr_iload_n dX11_mend_58 rfl rfl ?_
        refine jr_iload dX11_mend_59 rfl ?_
        refine jr_iload_n dX11_mend_61 rfl rfl ?_
        refine jr_callV (mc2 := 0) (mc := 0) (ms2 := 0) (ms := 0) vm_X11_123 (av := [.int x1, .int x2, .int r3, .int x3]) (st := []) rfl rfl ks_12 (by decide) rfl (Nat.le_of_ble_eq_true rfl) dX11_mend_62 (cV_use (M := (yX2_add, cX2_add, 5, none)) h ?_)
        intro I5 L5 h
        refine jr_iload dX11_mend_65 rfl ?_
        exact jr_ireturn dX11_mend_67 ⟨Or.inr (Or.inl ⟨rfl, _, rfl⟩), _, _, rfl, h⟩
    · rw [if_pos c] at h
      refine jr_iconst dX11_mend_24 kic_m1 ?_
      exact jr_ireturn dX11_mend_25 ⟨Or.inr (Or.inl ⟨rfl, _, rfl⟩), _, _, rfl, h⟩
def wX11_of_37 (G : jG) (l : Launch) (d : Nat) (Q : Option Value → jS → jL → Prop) (x1 : Int32) (x2 : Int32) (I : jS) (L : jL) : Prop := cI G l mX11_isSquare d [.int x1] I L (fun r1 I1 L1 => (if r1 = 0 then (Q (some (.int (-1 : Int32))) I1 L1) else (cV G l mX3_layStrength d [.ref 23, .ref 25] I1 L1 (fun I2 L2 => (if x2 = (10 : Int32) then (cI G l mX5_weakOn d [.ref 25, .int x1] I2 L2 (fun r4 I4 L4 => (Q (some (.int r4)) I4 L4))) else (cI G l mX3_bearing d [.ref 23, .ref 25, .int x1, .int (0 : Int32)] I2 L2 (fun r3 I3 L3 => (Q (some (.int r3)) I3 L3))))))))
set_option maxRecDepth 100000 in
set_option maxHeartbeats 4000000 in
theorem wX11_of_37_ok {G : jG} {l : Launch} {d : Nat} {Q : Option Value → jS → jL → Prop} : ∀ (x1 : Int32) (x2 : Int32) (I : jS) (L : jL), wX11_of_37 G l d Q x1 x2 I L → J G l yX11_of cX11_of 3 (d + 1) 0 0 37 [some (.ref 0), some (.int x1), some (.int x2)] [] (jKS, I, L, jR0) (jQm (some .int) Q) := by
  intro x1 x2 I L h
  rw [wX11_of_37] at h
  refine jr_iload_n dX11_of_37 rfl rfl ?_
  refine jr_callS (mc2 := 0) (mc := 0) (ms2 := 0) (ms := 0) vm_X11_135 (av := [.int x1]) (st := []) rfl rfl (Nat.le_of_ble_eq_true rfl) dX11_of_38 (cI_use (M := (yX11_isSquare, cX11_isSquare, 1, some .boolean)) h ?_)
  intro r1 I1 L1 h
  refine jr_if_ne dX11_of_41 (tgt := 46) (by decide) (fun c => ?_) (fun c => ?_)
  · rw [if_neg c] at h
    refine jr_aload_n dX11_of_46 rfl rfl ?_
    refine jr_geta ff_X11_35 ks_0 rr_0_3 dX11_of_47 ?_
    refine jr_aload_n dX11_of_50 rfl rfl ?_
    refine jr_geta ff_X11_42 ks_0 rr_0_4 dX11_of_51 ?_
    refine jr_geta ff_X11_126 ks_24 rr_24_0 dX11_of_54 ?_
    refine jr_callV (mc2 := 0) (mc := 0) (ms2 := 0) (ms := 0) vm_X11_138 (av := [.ref 25]) (st := []) rfl rfl ks_23 (by decide) rfl (Nat.le_of_ble_eq_true rfl) dX11_of_57 (cV_use (M := (yX3_layStrength, cX3_layStrength, 2, none)) h ?_)
    intro I2 L2 h
    refine jr_iload_n dX11_of_60 rfl rfl ?_
    refine jr_bipush dX11_of_61 kbp_10 ?_
    refine jr_icmp_ne dX11_of_63 (tgt := 80) (by decide) (fun c => ?_) (fun c => ?_)
    · rw [if_neg c] at h
      refine jr_aload_n dX11_of_80 rfl rfl ?_
      refine jr_geta ff_X11_35 ks_0 rr_0_3 dX11_of_81 ?_
      refine jr_aload_n dX11_of_84 rfl rfl ?_
      refine jr_geta ff_X11_42 ks_0 rr_0_4 dX11_of_85 ?_
      refine jr_geta ff_X11_126 ks_24 rr_24_0 dX11_of_88 ?_
      refine jr_iload_n dX11_of_91 rfl rfl ?_
      refine jr_iconst dX11_of_92 kic_0 ?_
      refine jr_callV (mc2 := 0) (mc := 0) (ms2 := 0) (ms := 0) vm_X11_146 (av := [.ref 25, .int x1, .int (0 : Int32)]) (st := []) rfl rfl ks_23 (by decide) rfl (Nat.le_of_ble_eq_true rfl) dX11_of_93 (cI_use (M := (yX3_bearing, cX3_bearing, 6, some .int)) h ?_)
      intro r3 I3 L3 h
      exact jr_ireturn dX11_of_96 ⟨Or.inr (Or.inl ⟨rfl, _, rfl⟩), _, _, rfl, h⟩
    · rw [if_pos c] at h
      refine jr_aload_n dX11_of_66 rfl rfl ?_
      refine jr_geta ff_X11_42 ks_0 rr_0_4 dX11_of_67 ?_
      refine jr_geta ff_X11_126 ks_24 rr_24_0 dX11_of_70 ?_
      refine jr_iload_n dX11_of_73 rfl rfl ?_
      refine jr_callV (mc2 := 0) (mc := 0) (ms2 := 0) (ms := 0) vm_X11_142 (av := [.int x1]) (st := []) rfl rfl ks_25 (by decide) rfl (Nat.le_of_ble_eq_true rfl) dX11_of_74 (cI_use (M := (yX5_weakOn, cX5_weakOn, 2, some .int)) h ?_)
      intro r4 I4 L4 h
      refine jr_goto dX11_of_77 (tgt := 96) (by decide) ?_
      exact jr_ireturn dX11_of_96 ⟨Or.inr (Or.inl ⟨rfl, _, rfl⟩), _, _, rfl, h⟩
  · rw [if_pos c] at h
    refine jr_iconst dX11_of_44 kic_m1 ?_
    exact jr_ireturn dX11_of_45 ⟨Or.inr (Or.inl ⟨rfl, _, rfl⟩), _, _, rfl, h⟩
def wX11_of (G : jG) (l : Launch) (d : Nat) (x1 : Int32) (x2 : Int32) (I : jS) (L : jL) (Q : Option Value → jS → jL → Prop) : Prop := if x2 = (12 : Int32) then (if x1 = 0 then (Q (some (.int (I 25 2))) I L) else (Q (some (.int (-1 : Int32))) I L)) else (if x2 = (10 : Int32) then (wX11_of_37 G l d Q x1 x2 I L) else (if x2 = (11 : Int32) then (wX11_of_37 G l d Q x1 x2 I L) else (cI G l mX7_has d [.ref 1, .int x1, .int x2] I L (fun r1 I1 L1 => (if r1 = 0 then (Q (some (.int (-1 : Int32))) I1 L1) else (cI G l mX7_get d [.ref 1, .int x1, .int x2] I1 L1 (fun r2 I2 L2 => (Q (some (.int r2)) I2 L2))))))))
set_option maxRecDepth 100000 in
set_option maxHeartbeats 4000000 in
theorem wX11_of_ok {G : jG} {l : Launch} {d : Nat} {Q : Option Value → jS → jL → Prop} {x1 : Int32} {x2 : Int32} {I : jS} {L : jL} (h : wX11_of G l d x1 x2 I L Q) : cM G l mX11_of (d + 1) [.ref 0, .int x1, .int x2] I L Q := by
  rw [wX11_of] at h
  show jCall G l yX11_of cX11_of 3 (some .int) (d + 1) 0 0 _ (jKS, I, L, jR0) _
  refine jCall_of (n0 := 0) (ls := [some (.ref 0), some (.int x1), some (.int x2)]) (by decide +kernel) rfl (Nat.le_of_ble_eq_true rfl) (jQm_of ?_)
  refine jr_iload_n dX11_of_0 rfl rfl ?_
  refine jr_bipush dX11_of_1 kbp_12 ?_
  refine jr_icmp_ne dX11_of_3 (tgt := 25) (by decide) (fun c => ?_) (fun c => ?_)
  · rw [if_neg c] at h
    refine jr_iload_n dX11_of_25 rfl rfl ?_
    refine jr_bipush dX11_of_26 kbp_10 ?_
    refine jr_icmp_eq dX11_of_28 (tgt := 37) (by decide) (fun c => ?_) (fun c => ?_)
    · rw [if_pos c] at h
      exact J.sub (wX11_of_37_ok  _ _ _ _ h) (jsub_some (jsub_some (jsub_some jsub_nil)))
    · rw [if_neg c] at h
      refine jr_iload_n dX11_of_31 rfl rfl ?_
      refine jr_bipush dX11_of_32 kbp_11 ?_
      refine jr_icmp_ne dX11_of_34 (tgt := 97) (by decide) (fun c => ?_) (fun c => ?_)
      · rw [if_neg c] at h
        refine jr_aload_n dX11_of_97 rfl rfl ?_
        refine jr_geta ff_X11_10 ks_0 rr_0_0 dX11_of_98 ?_
        refine jr_iload_n dX11_of_101 rfl rfl ?_
        refine jr_iload_n dX11_of_102 rfl rfl ?_
        refine jr_callV (mc2 := 0) (mc := 0) (ms2 := 0) (ms := 0) vm_X11_112 (av := [.int x1, .int x2]) (st := []) rfl rfl ks_1 (by decide) rfl (Nat.le_of_ble_eq_true rfl) dX11_of_103 (cI_use (M := (yX7_has, cX7_has, 3, some .boolean)) h ?_)
        intro r1 I1 L1 h
        refine jr_if_eq dX11_of_106 (tgt := 121) (by decide) (fun c => ?_) (fun c => ?_)
        · rw [if_pos c] at h
          refine jr_iconst dX11_of_121 kic_m1 ?_
          exact jr_ireturn dX11_of_122 ⟨Or.inr (Or.inl ⟨rfl, _, rfl⟩), _, _, rfl, h⟩
        · rw [if_neg c] at h
          refine jr_aload_n dX11_of_109 rfl rfl ?_
          refine jr_geta ff_X11_10 ks_0 rr_0_0 dX11_of_110 ?_
          refine jr_iload_n dX11_of_113 rfl rfl ?_
          refine jr_iload_n dX11_of_114 rfl rfl ?_
          refine jr_callV (mc2 := 0) (mc := 0) (ms2 := 0) (ms := 0) vm_X11_115 (av := [.int x1, .int x2]) (st := []) rfl rfl ks_1 (by decide) rfl (Nat.le_of_ble_eq_true rfl) dX11_of_115 (cI_use (M := (yX7_get, cX7_get, 4, some .int)) h ?_)
          intro r2 I2 L2 h
          refine jr_goto dX11_of_118 (tgt := 122) (by decide) ?_
          exact jr_ireturn dX11_of_122 ⟨Or.inr (Or.inl ⟨rfl, _, rfl⟩), _, _, rfl, h⟩
      · rw [if_pos c] at h
        exact J.sub (wX11_of_37_ok  _ _ _ _ h) (jsub_some (jsub_some (jsub_some jsub_nil)))
  · rw [if_pos c] at h
    refine jr_iload_n dX11_of_6 rfl rfl ?_
    refine jr_if_ne dX11_of_7 (tgt := 23) (by decide) (fun c => ?_) (fun c => ?_)
    · rw [if_neg c] at h
      refine jr_iconst dX11_of_23 kic_m1 ?_
      exact jr_ireturn dX11_of_24 ⟨Or.inr (Or.inl ⟨rfl, _, rfl⟩), _, _, rfl, h⟩
    · rw [if_pos c] at h
      refine jr_aload_n dX11_of_10 rfl rfl ?_
      refine jr_geta ff_X11_42 ks_0 rr_0_4 dX11_of_11 ?_
      refine jr_geta ff_X11_126 ks_24 rr_24_0 dX11_of_14 ?_
      refine jv_geti rfl ff_X11_130 ks_25 dX11_of_17 ?_
      refine jr_goto dX11_of_20 (tgt := 24) (by decide) ?_
      exact jr_ireturn dX11_of_24 ⟨Or.inr (Or.inl ⟨rfl, _, rfl⟩), _, _, rfl, h⟩
def wX11_feed (G : jG) (l : Launch) (d : Nat) (x1 : Int32) (I : jS) (L : jL) (Q : Option Value → jS → jL → Prop) : Prop := if x1 < 0 then (Q (some (.int (-1 : Int32))) I L) else (if x1 ≤ (255 : Int32) then (cI G l mX6_take d [.ref 17, .int x1] I L (fun r1 I1 L1 => (if r1 = 0 then (Q (some (.int (-3 : Int32))) I1 L1) else (Q (some (.int (I1 17 5))) I1 L1)))) else (Q (some (.int (-1 : Int32))) I L))
set_option maxRecDepth 100000 in
set_option maxHeartbeats 4000000 in
theorem wX11_feed_ok {G : jG} {l : Launch} {d : Nat} {Q : Option Value → jS → jL → Prop} {x1 : Int32} {I : jS} {L : jL} (h : wX11_feed G l d x1 I L Q) : cM G l mX11_feed (d + 1) [.ref 0, .int x1] I L Q := by
  rw [wX11_feed] at h
  show jCall G l yX11_feed cX11_feed 2 (some .int) (d + 1) 0 0 _ (jKS, I, L, jR0) _
  refine jCall_of (n0 := 0) (ls := [some (.ref 0), some (.int x1)]) (by decide +kernel) rfl (Nat.le_of_ble_eq_true rfl) (jQm_of ?_)
  refine jr_iload_n dX11_feed_0 rfl rfl ?_
  refine jr_if_lt dX11_feed_1 (tgt := 11) (by decide) (fun c => ?_) (fun c => ?_)
  · rw [if_pos c] at h
    refine jr_iconst dX11_feed_11 kic_m1 ?_
    exact jr_ireturn dX11_feed_12 ⟨Or.inr (Or.inl ⟨rfl, _, rfl⟩), _, _, rfl, h⟩
  · rw [if_neg c] at h
    refine jr_iload_n dX11_feed_4 rfl rfl ?_
    refine jr_sipush dX11_feed_5 ksp_255 ?_
    refine jr_icmp_le dX11_feed_8 (tgt := 13) (by decide) (fun c => ?_) (fun c => ?_)
    · rw [if_pos c] at h
      refine jr_aload_n dX11_feed_13 rfl rfl ?_
      refine jr_geta ff_X11_26 ks_0 rr_0_2 dX11_feed_14 ?_
      refine jr_iload_n dX11_feed_17 rfl rfl ?_
      refine jr_callV (mc2 := 0) (mc := 0) (ms2 := 0) (ms := 0) vm_X11_150 (av := [.int x1]) (st := []) rfl rfl ks_17 (by decide) rfl (Nat.le_of_ble_eq_true rfl) dX11_feed_18 (cI_use (M := (yX6_take, cX6_take, 2, some .boolean)) h ?_)
      intro r1 I1 L1 h
      refine jr_if_eq dX11_feed_21 (tgt := 34) (by decide) (fun c => ?_) (fun c => ?_)
      · rw [if_pos c] at h
        refine jr_bipush dX11_feed_34 kbp_m3 ?_
        exact jr_ireturn dX11_feed_36 ⟨Or.inr (Or.inl ⟨rfl, _, rfl⟩), _, _, rfl, h⟩
      · rw [if_neg c] at h
        refine jr_aload_n dX11_feed_24 rfl rfl ?_
        refine jr_geta ff_X11_26 ks_0 rr_0_2 dX11_feed_25 ?_
        refine jv_geti rfl ff_X11_153 ks_17 dX11_feed_28 ?_
        refine jr_goto dX11_feed_31 (tgt := 36) (by decide) ?_
        exact jr_ireturn dX11_feed_36 ⟨Or.inr (Or.inl ⟨rfl, _, rfl⟩), _, _, rfl, h⟩
    · rw [if_neg c] at h
      refine jr_iconst dX11_feed_11 kic_m1 ?_
      exact jr_ireturn dX11_feed_12 ⟨Or.inr (Or.inl ⟨rfl, _, rfl⟩), _, _, rfl, h⟩
def wX11_law (G : jG) (l : Launch) (d : Nat) (I : jS) (L : jL) (Q : Option Value → jS → jL → Prop) : Prop := cI G l mX6_read d [.ref 17] I L (fun r1 I1 L1 => (if 0 ≤ r1 then (Q (some (.int ((-100 : Int32) - r1))) I1 L1) else (Q (some (.int (1 : Int32))) I1 L1)))
set_option maxRecDepth 100000 in
set_option maxHeartbeats 4000000 in
theorem wX11_law_ok {G : jG} {l : Launch} {d : Nat} {Q : Option Value → jS → jL → Prop} {I : jS} {L : jL} (h : wX11_law G l d I L Q) : cM G l mX11_law (d + 1) [.ref 0] I L Q := by
  rw [wX11_law] at h
  show jCall G l yX11_law cX11_law 2 (some .int) (d + 1) 0 0 _ (jKS, I, L, jR0) _
  refine jCall_of (n0 := 1) (ls := [some (.ref 0), none]) (by decide +kernel) rfl (Nat.le_of_ble_eq_true rfl) (jQm_of ?_)
  refine jr_aload_n dX11_law_0 rfl rfl ?_
  refine jr_geta ff_X11_26 ks_0 rr_0_2 dX11_law_1 ?_
  refine jr_callV (mc2 := 0) (mc := 0) (ms2 := 0) (ms := 0) vm_X11_156 (av := []) (st := []) rfl rfl ks_17 (by decide) rfl (Nat.le_of_ble_eq_true rfl) dX11_law_4 (cI_use (M := (yX6_read, cX6_read, 3, some .int)) h ?_)
  intro r1 I1 L1 h
  refine jr_istore_n dX11_law_7 rfl (by decide) rfl ?_
  refine jr_iload_n dX11_law_8 rfl rfl ?_
  refine jr_if_ge dX11_law_9 (tgt := 16) (by decide) (fun c => ?_) (fun c => ?_)
  · rw [if_pos c] at h
    refine jr_bipush dX11_law_16 kbp_m100 ?_
    refine jr_iload_n dX11_law_18 rfl rfl ?_
    refine jr_isub dX11_law_19 ?_
    exact jr_ireturn dX11_law_20 ⟨Or.inr (Or.inl ⟨rfl, _, rfl⟩), _, _, rfl, h⟩
  · rw [if_neg c] at h
    refine jr_iconst dX11_law_12 kic_1 ?_
    refine jr_goto dX11_law_13 (tgt := 20) (by decide) ?_
    exact jr_ireturn dX11_law_20 ⟨Or.inr (Or.inl ⟨rfl, _, rfl⟩), _, _, rfl, h⟩
def wX11_over (G : jG) (l : Launch) (d : Nat) (x1 : Int32) (x2 : Int32) (x3 : Int32) (I : jS) (L : jL) (Q : Option Value → jS → jL → Prop) : Prop := cI G l mX11_isShelf d [.int x1] I L (fun r1 I1 L1 => (if r1 = 0 then (Q (some (.int (-1 : Int32))) I1 L1) else (cI G l mX11_isWay d [.int x2] I1 L1 (fun r2 I2 L2 => (if r2 = 0 then (Q (some (.int (-1 : Int32))) I2 L2) else (if x3 < 0 then (Q (some (.int (-1 : Int32))) I2 L2) else (if x3 ≤ (2 : Int32) then (cI G l mX9_bytesRefusal d [.ref 57, .int x1] I2 L2 (fun r3 I3 L3 => (if r3 = 0 then (cV G l mX11_runOrder d [.ref 0, .int x1, .int x2] I3 L3 (fun I4 L4 => (if x3 = 0 then (Q (some (.int (I4 31 6))) I4 L4) else (if x3 = (1 : Int32) then (Q (some (.int (I4 31 7))) I4 L4) else (Q (some (.int ((I4 32 2) - (I4 25 2)))) I4 L4))))) else (Q (some (.int r3)) I3 L3)))) else (Q (some (.int (-1 : Int32))) I2 L2))))))))
set_option maxRecDepth 100000 in
set_option maxHeartbeats 4000000 in
theorem wX11_over_ok {G : jG} {l : Launch} {d : Nat} {Q : Option Value → jS → jL → Prop} {x1 : Int32} {x2 : Int32} {x3 : Int32} {I : jS} {L : jL} (h : wX11_over G l d x1 x2 x3 I L Q) : cM G l mX11_over (d + 1) [.ref 0, .int x1, .int x2, .int x3] I L Q := by
  rw [wX11_over] at h
  show jCall G l yX11_over cX11_over 5 (some .int) (d + 1) 0 0 _ (jKS, I, L, jR0) _
  refine jCall_of (n0 := 1) (ls := [some (.ref 0), some (.int x1), some (.int x2), some (.int x3), none]) (by decide +kernel) rfl (Nat.le_of_ble_eq_true rfl) (jQm_of ?_)
  refine jr_iload_n dX11_over_0 rfl rfl ?_
  refine jr_callS (mc2 := 0) (mc := 0) (ms2 := 0) (ms := 0) vm_X11_95 (av := [.int x1]) (st := []) rfl rfl (Nat.le_of_ble_eq_true rfl) dX11_over_1 (cI_use (M := (yX11_isShelf, cX11_isShelf, 1, some .boolean)) h ?_)
  intro r1 I1 L1 h
  refine jr_if_eq dX11_over_4 (tgt := 23) (by decide) (fun c => ?_) (fun c => ?_)
  · rw [if_pos c] at h
    refine jr_iconst dX11_over_23 kic_m1 ?_
    exact jr_ireturn dX11_over_24 ⟨Or.inr (Or.inl ⟨rfl, _, rfl⟩), _, _, rfl, h⟩
  · rw [if_neg c] at h
    refine jr_iload_n dX11_over_7 rfl rfl ?_
    refine jr_callS (mc2 := 0) (mc := 0) (ms2 := 0) (ms := 0) vm_X11_160 (av := [.int x2]) (st := []) rfl rfl (Nat.le_of_ble_eq_true rfl) dX11_over_8 (cI_use (M := (yX11_isWay, cX11_isWay, 1, some .boolean)) h ?_)
    intro r2 I2 L2 h
    refine jr_if_eq dX11_over_11 (tgt := 23) (by decide) (fun c => ?_) (fun c => ?_)
    · rw [if_pos c] at h
      refine jr_iconst dX11_over_23 kic_m1 ?_
      exact jr_ireturn dX11_over_24 ⟨Or.inr (Or.inl ⟨rfl, _, rfl⟩), _, _, rfl, h⟩
    · rw [if_neg c] at h
      refine jr_iload_n dX11_over_14 rfl rfl ?_
      refine jr_if_lt dX11_over_15 (tgt := 23) (by decide) (fun c => ?_) (fun c => ?_)
      · rw [if_pos c] at h
        refine jr_iconst dX11_over_23 kic_m1 ?_
        exact jr_ireturn dX11_over_24 ⟨Or.inr (Or.inl ⟨rfl, _, rfl⟩), _, _, rfl, h⟩
      · rw [if_neg c] at h
        refine jr_iload_n dX11_over_18 rfl rfl ?_
        refine jr_iconst dX11_over_19 kic_2 ?_
        refine jr_icmp_le dX11_over_20 (tgt := 25) (by decide) (fun c => ?_) (fun c => ?_)
        · rw [if_pos c] at h
          refine jr_aload_n dX11_over_25 rfl rfl ?_
          refine jr_geta ff_X11_72 ks_0 rr_0_8 dX11_over_26 ?_
          refine jr_iload_n dX11_over_29 rfl rfl ?_
          refine jr_callV (mc2 := 0) (mc := 0) (ms2 := 0) (ms := 0) vm_X11_163 (av := [.int x1]) (st := []) rfl rfl ks_57 (by decide) rfl (Nat.le_of_ble_eq_true rfl) dX11_over_30 (cI_use (M := (yX9_bytesRefusal, cX9_bytesRefusal, 2, some .int)) h ?_)
          intro r3 I3 L3 h
          refine jr_istore dX11_over_33 (by decide) rfl ?_
          refine jr_iload dX11_over_35 rfl ?_
          refine jr_if_eq dX11_over_37 (tgt := 43) (by decide) (fun c => ?_) (fun c => ?_)
          · rw [if_pos c] at h
            refine jr_aload_n dX11_over_43 rfl rfl ?_
            refine jr_iload_n dX11_over_44 rfl rfl ?_
            refine jr_iload_n dX11_over_45 rfl rfl ?_
            refine jr_callV (mc2 := 0) (mc := 0) (ms2 := 0) (ms := 0) vm_X11_166 (av := [.int x1, .int x2]) (st := []) rfl rfl ks_0 (by decide) rfl (Nat.le_of_ble_eq_true rfl) dX11_over_46 (cV_use (M := (yX11_runOrder, cX11_runOrder, 3, none)) h ?_)
            intro I4 L4 h
            refine jr_iload_n dX11_over_49 rfl rfl ?_
            refine jr_if_ne dX11_over_50 (tgt := 61) (by decide) (fun c => ?_) (fun c => ?_)
            · rw [if_neg c] at h
              refine jr_iload_n dX11_over_61 rfl rfl ?_
              refine jr_iconst dX11_over_62 kic_1 ?_
              refine jr_icmp_ne dX11_over_63 (tgt := 76) (by decide) (fun c => ?_) (fun c => ?_)
              · rw [if_neg c] at h
                refine jr_aload_n dX11_over_76 rfl rfl ?_
                refine jr_geta ff_X11_51 ks_0 rr_0_5 dX11_over_77 ?_
                refine jr_geta ff_X11_176 ks_31 rr_31_2 dX11_over_80 ?_
                refine jv_geti rfl ff_X11_130 ks_32 dX11_over_83 ?_
                refine jr_aload_n dX11_over_86 rfl rfl ?_
                refine jr_geta ff_X11_42 ks_0 rr_0_4 dX11_over_87 ?_
                refine jr_geta ff_X11_126 ks_24 rr_24_0 dX11_over_90 ?_
                refine jv_geti rfl ff_X11_130 ks_25 dX11_over_93 ?_
                refine jr_isub dX11_over_96 ?_
                exact jr_ireturn dX11_over_97 ⟨Or.inr (Or.inl ⟨rfl, _, rfl⟩), _, _, rfl, h⟩
              · rw [if_pos c] at h
                refine jr_aload_n dX11_over_66 rfl rfl ?_
                refine jr_geta ff_X11_51 ks_0 rr_0_5 dX11_over_67 ?_
                refine jv_geti rfl ff_X11_173 ks_31 dX11_over_70 ?_
                refine jr_goto dX11_over_73 (tgt := 97) (by decide) ?_
                exact jr_ireturn dX11_over_97 ⟨Or.inr (Or.inl ⟨rfl, _, rfl⟩), _, _, rfl, h⟩
            · rw [if_pos c] at h
              refine jr_aload_n dX11_over_53 rfl rfl ?_
              refine jr_geta ff_X11_51 ks_0 rr_0_5 dX11_over_54 ?_
              refine jv_geti rfl ff_X11_170 ks_31 dX11_over_57 ?_
              exact jr_ireturn dX11_over_60 ⟨Or.inr (Or.inl ⟨rfl, _, rfl⟩), _, _, rfl, h⟩
          · rw [if_neg c] at h
            refine jr_iload dX11_over_40 rfl ?_
            exact jr_ireturn dX11_over_42 ⟨Or.inr (Or.inl ⟨rfl, _, rfl⟩), _, _, rfl, h⟩
        · rw [if_neg c] at h
          refine jr_iconst dX11_over_23 kic_m1 ?_
          exact jr_ireturn dX11_over_24 ⟨Or.inr (Or.inl ⟨rfl, _, rfl⟩), _, _, rfl, h⟩
def wX11_bears (G : jG) (l : Launch) (d : Nat) (x1 : Int32) (x2 : Int32) (x3 : Int32) (I : jS) (L : jL) (Q : Option Value → jS → jL → Prop) : Prop := cI G l mX11_isShelf d [.int x1] I L (fun r1 I1 L1 => (if r1 = 0 then (Q (some (.int (-1 : Int32))) I1 L1) else (cI G l mX11_isWay d [.int x2] I1 L1 (fun r2 I2 L2 => (if r2 = 0 then (Q (some (.int (-1 : Int32))) I2 L2) else (cI G l mX11_isSquare d [.int x3] I2 L2 (fun r3 I3 L3 => (if r3 = 0 then (Q (some (.int (-1 : Int32))) I3 L3) else (cI G l mX9_bytesRefusal d [.ref 57, .int x1] I3 L3 (fun r4 I4 L4 => (if r4 = 0 then (cV G l mX11_runOrder d [.ref 0, .int x1, .int x2] I4 L4 (fun I5 L5 => (cI G l mX3_bearing d [.ref 23, .ref 32, .int x3, .int (0 : Int32)] I5 L5 (fun r6 I6 L6 => (Q (some (.int r6)) I6 L6))))) else (Q (some (.int r4)) I4 L4))))))))))))
set_option maxRecDepth 100000 in
set_option maxHeartbeats 4000000 in
theorem wX11_bears_ok {G : jG} {l : Launch} {d : Nat} {Q : Option Value → jS → jL → Prop} {x1 : Int32} {x2 : Int32} {x3 : Int32} {I : jS} {L : jL} (h : wX11_bears G l d x1 x2 x3 I L Q) : cM G l mX11_bears (d + 1) [.ref 0, .int x1, .int x2, .int x3] I L Q := by
  rw [wX11_bears] at h
  show jCall G l yX11_bears cX11_bears 5 (some .int) (d + 1) 0 0 _ (jKS, I, L, jR0) _
  refine jCall_of (n0 := 1) (ls := [some (.ref 0), some (.int x1), some (.int x2), some (.int x3), none]) (by decide +kernel) rfl (Nat.le_of_ble_eq_true rfl) (jQm_of ?_)
  refine jr_iload_n dX11_bears_0 rfl rfl ?_
  refine jr_callS (mc2 := 0) (mc := 0) (ms2 := 0) (ms := 0) vm_X11_95 (av := [.int x1]) (st := []) rfl rfl (Nat.le_of_ble_eq_true rfl) dX11_bears_1 (cI_use (M := (yX11_isShelf, cX11_isShelf, 1, some .boolean)) h ?_)
  intro r1 I1 L1 h
  refine jr_if_eq dX11_bears_4 (tgt := 21) (by decide) (fun c => ?_) (fun c => ?_)
  · rw [if_pos c] at h
    refine jr_iconst dX11_bears_21 kic_m1 ?_
    exact jr_ireturn dX11_bears_22 ⟨Or.inr (Or.inl ⟨rfl, _, rfl⟩), _, _, rfl, h⟩
  · rw [if_neg c] at h
    refine jr_iload_n dX11_bears_7 rfl rfl ?_
    refine jr_callS (mc2 := 0) (mc := 0) (ms2 := 0) (ms := 0) vm_X11_160 (av := [.int x2]) (st := []) rfl rfl (Nat.le_of_ble_eq_true rfl) dX11_bears_8 (cI_use (M := (yX11_isWay, cX11_isWay, 1, some .boolean)) h ?_)
    intro r2 I2 L2 h
    refine jr_if_eq dX11_bears_11 (tgt := 21) (by decide) (fun c => ?_) (fun c => ?_)
    · rw [if_pos c] at h
      refine jr_iconst dX11_bears_21 kic_m1 ?_
      exact jr_ireturn dX11_bears_22 ⟨Or.inr (Or.inl ⟨rfl, _, rfl⟩), _, _, rfl, h⟩
    · rw [if_neg c] at h
      refine jr_iload_n dX11_bears_14 rfl rfl ?_
      refine jr_callS (mc2 := 0) (mc := 0) (ms2 := 0) (ms := 0) vm_X11_135 (av := [.int x3]) (st := []) rfl rfl (Nat.le_of_ble_eq_true rfl) dX11_bears_15 (cI_use (M := (yX11_isSquare, cX11_isSquare, 1, some .boolean)) h ?_)
      intro r3 I3 L3 h
      refine jr_if_ne dX11_bears_18 (tgt := 23) (by decide) (fun c => ?_) (fun c => ?_)
      · rw [if_neg c] at h
        refine jr_aload_n dX11_bears_23 rfl rfl ?_
        refine jr_geta ff_X11_72 ks_0 rr_0_8 dX11_bears_24 ?_
        refine jr_iload_n dX11_bears_27 rfl rfl ?_
        refine jr_callV (mc2 := 0) (mc := 0) (ms2 := 0) (ms := 0) vm_X11_163 (av := [.int x1]) (st := []) rfl rfl ks_57 (by decide) rfl (Nat.le_of_ble_eq_true rfl) dX11_bears_28 (cI_use (M := (yX9_bytesRefusal, cX9_bytesRefusal, 2, some .int)) h ?_)
        intro r4 I4 L4 h
        refine jr_istore dX11_bears_31 (by decide) rfl ?_
        refine jr_iload dX11_bears_33 rfl ?_
        refine jr_if_eq dX11_bears_35 (tgt := 41) (by decide) (fun c => ?_) (fun c => ?_)
        · rw [if_pos c] at h
          refine jr_aload_n dX11_bears_41 rfl rfl ?_
          refine jr_iload_n dX11_bears_42 rfl rfl ?_
          refine jr_iload_n dX11_bears_43 rfl rfl ?_
          refine jr_callV (mc2 := 0) (mc := 0) (ms2 := 0) (ms := 0) vm_X11_166 (av := [.int x1, .int x2]) (st := []) rfl rfl ks_0 (by decide) rfl (Nat.le_of_ble_eq_true rfl) dX11_bears_44 (cV_use (M := (yX11_runOrder, cX11_runOrder, 3, none)) h ?_)
          intro I5 L5 h
          refine jr_aload_n dX11_bears_47 rfl rfl ?_
          refine jr_geta ff_X11_35 ks_0 rr_0_3 dX11_bears_48 ?_
          refine jr_aload_n dX11_bears_51 rfl rfl ?_
          refine jr_geta ff_X11_51 ks_0 rr_0_5 dX11_bears_52 ?_
          refine jr_geta ff_X11_176 ks_31 rr_31_2 dX11_bears_55 ?_
          refine jr_iload_n dX11_bears_58 rfl rfl ?_
          refine jr_iconst dX11_bears_59 kic_0 ?_
          refine jr_callV (mc2 := 0) (mc := 0) (ms2 := 0) (ms := 0) vm_X11_146 (av := [.ref 32, .int x3, .int (0 : Int32)]) (st := []) rfl rfl ks_23 (by decide) rfl (Nat.le_of_ble_eq_true rfl) dX11_bears_60 (cI_use (M := (yX3_bearing, cX3_bearing, 6, some .int)) h ?_)
          intro r6 I6 L6 h
          exact jr_ireturn dX11_bears_63 ⟨Or.inr (Or.inl ⟨rfl, _, rfl⟩), _, _, rfl, h⟩
        · rw [if_neg c] at h
          refine jr_iload dX11_bears_38 rfl ?_
          exact jr_ireturn dX11_bears_40 ⟨Or.inr (Or.inl ⟨rfl, _, rfl⟩), _, _, rfl, h⟩
      · rw [if_pos c] at h
        refine jr_iconst dX11_bears_21 kic_m1 ?_
        exact jr_ireturn dX11_bears_22 ⟨Or.inr (Or.inl ⟨rfl, _, rfl⟩), _, _, rfl, h⟩
def wX11_all (G : jG) (l : Launch) (d : Nat) (x1 : Int32) (x2 : Int32) (I : jS) (L : jL) (Q : Option Value → jS → jL → Prop) : Prop := cI G l mX11_isWay d [.int x1] I L (fun r1 I1 L1 => (if r1 = 0 then (Q (some (.int (-1 : Int32))) I1 L1) else (if (-1 : Int32) ≤ x2 then (if x2 < (I1 1 1) then (cI G l mX8_mostOver d [.ref 37, .ref 25, .int x1] I1 L1 (fun r2 I2 L2 => (if 0 ≤ x2 then (cI G l mX8_found d [.ref 37, .int x2] I2 L2 (fun r3 I3 L3 => (Q (some (.int r3)) I3 L3))) else (Q (some (.int r2)) I2 L2)))) else (Q (some (.int (-2 : Int32))) I1 L1)) else (Q (some (.int (-1 : Int32))) I1 L1))))
set_option maxRecDepth 100000 in
set_option maxHeartbeats 4000000 in
theorem wX11_all_ok {G : jG} {l : Launch} {d : Nat} {Q : Option Value → jS → jL → Prop} {x1 : Int32} {x2 : Int32} {I : jS} {L : jL} (h : wX11_all G l d x1 x2 I L Q) : cM G l mX11_all (d + 1) [.ref 0, .int x1, .int x2] I L Q := by
  rw [wX11_all] at h
  show jCall G l yX11_all cX11_all 4 (some .int) (d + 1) 0 0 _ (jKS, I, L, jR0) _
  refine jCall_of (n0 := 1) (ls := [some (.ref 0), some (.int x1), some (.int x2), none]) (by decide +kernel) rfl (Nat.le_of_ble_eq_true rfl) (jQm_of ?_)
  refine jr_iload_n dX11_all_0 rfl rfl ?_
  refine jr_callS (mc2 := 0) (mc := 0) (ms2 := 0) (ms := 0) vm_X11_160 (av := [.int x1]) (st := []) rfl rfl (Nat.le_of_ble_eq_true rfl) dX11_all_1 (cI_use (M := (yX11_isWay, cX11_isWay, 1, some .boolean)) h ?_)
  intro r1 I1 L1 h
  refine jr_if_eq dX11_all_4 (tgt := 12) (by decide) (fun c => ?_) (fun c => ?_)
  · rw [if_pos c] at h
    refine jr_iconst dX11_all_12 kic_m1 ?_
    exact jr_ireturn dX11_all_13 ⟨Or.inr (Or.inl ⟨rfl, _, rfl⟩), _, _, rfl, h⟩
  · rw [if_neg c] at h
    refine jr_iload_n dX11_all_7 rfl rfl ?_
    refine jr_iconst dX11_all_8 kic_m1 ?_
    refine jr_icmp_ge dX11_all_9 (tgt := 14) (by decide) (fun c => ?_) (fun c => ?_)
    · rw [if_pos c] at h
      refine jr_iload_n dX11_all_14 rfl rfl ?_
      refine jr_aload_n dX11_all_15 rfl rfl ?_
      refine jr_geta ff_X11_10 ks_0 rr_0_0 dX11_all_16 ?_
      refine jv_geti rfl ff_X11_87 ks_1 dX11_all_19 ?_
      refine jr_icmp_lt dX11_all_22 (tgt := 28) (by decide) (fun c => ?_) (fun c => ?_)
      · rw [if_pos c] at h
        refine jr_aload_n dX11_all_28 rfl rfl ?_
        refine jr_geta ff_X11_58 ks_0 rr_0_6 dX11_all_29 ?_
        refine jr_aload_n dX11_all_32 rfl rfl ?_
        refine jr_geta ff_X11_42 ks_0 rr_0_4 dX11_all_33 ?_
        refine jr_geta ff_X11_126 ks_24 rr_24_0 dX11_all_36 ?_
        refine jr_iload_n dX11_all_39 rfl rfl ?_
        refine jr_callV (mc2 := 0) (mc := 0) (ms2 := 0) (ms := 0) vm_X11_177 (av := [.ref 25, .int x1]) (st := []) rfl rfl ks_37 (by decide) rfl (Nat.le_of_ble_eq_true rfl) dX11_all_40 (cI_use (M := (yX8_mostOver, cX8_mostOver, 3, some .int)) h ?_)
        intro r2 I2 L2 h
        refine jr_istore_n dX11_all_43 rfl (by decide) rfl ?_
        refine jr_iload_n dX11_all_44 rfl rfl ?_
        refine jr_if_ge dX11_all_45 (tgt := 52) (by decide) (fun c => ?_) (fun c => ?_)
        · rw [if_pos c] at h
          refine jr_aload_n dX11_all_52 rfl rfl ?_
          refine jr_geta ff_X11_58 ks_0 rr_0_6 dX11_all_53 ?_
          refine jr_iload_n dX11_all_56 rfl rfl ?_
          refine jr_callV (mc2 := 0) (mc := 0) (ms2 := 0) (ms := 0) vm_X11_181 (av := [.int x2]) (st := []) rfl rfl ks_37 (by decide) rfl (Nat.le_of_ble_eq_true rfl) dX11_all_57 (cI_use (M := (yX8_found, cX8_found, 2, some .int)) h ?_)
          intro r3 I3 L3 h
          exact jr_ireturn dX11_all_60 ⟨Or.inr (Or.inl ⟨rfl, _, rfl⟩), _, _, rfl, h⟩
        · rw [if_neg c] at h
          refine jr_iload_n dX11_all_48 rfl rfl ?_
          refine jr_goto dX11_all_49 (tgt := 60) (by decide) ?_
          exact jr_ireturn dX11_all_60 ⟨Or.inr (Or.inl ⟨rfl, _, rfl⟩), _, _, rfl, h⟩
      · rw [if_neg c] at h
        refine jr_bipush dX11_all_25 kbp_m2 ?_
        exact jr_ireturn dX11_all_27 ⟨Or.inr (Or.inl ⟨rfl, _, rfl⟩), _, _, rfl, h⟩
    · rw [if_neg c] at h
      refine jr_iconst dX11_all_12 kic_m1 ?_
      exact jr_ireturn dX11_all_13 ⟨Or.inr (Or.inl ⟨rfl, _, rfl⟩), _, _, rfl, h⟩
def wX11_rule_43 (G : jG) (l : Launch) (d : Nat) (Q : Option Value → jS → jL → Prop) : Nat → Int32 → Int32 → Int32 → Int32 → jS → jL → Prop
  | 0, _, _, _, _, _, _ => False
  | n43 + 1, x1, x3, x4, x5, I, L => if (4 : Int32) ≤ x5 then (Q (some (.int x3)) I L) else (cI G l mX11_overByRule d [.ref 0, .int x1, .int x5] I L (fun r1 I1 L1 => (if r1 ≤ x4 then ((wX11_rule_43 G l d Q n43) x1 x3 x4 (x5 + (1 : Int32)) I1 L1) else ((wX11_rule_43 G l d Q n43) x1 x5 r1 (x5 + (1 : Int32)) I1 L1))))
set_option maxRecDepth 100000 in
set_option maxHeartbeats 4000000 in
theorem wX11_rule_43_ok {G : jG} {l : Launch} {d : Nat} {Q : Option Value → jS → jL → Prop} : ∀ (n : Nat) (x1 : Int32) (x3 : Int32) (x4 : Int32) (x5 : Int32) (I : jS) (L : jL), wX11_rule_43 G l d Q n x1 x3 x4 x5 I L → J G l yX11_rule cX11_rule 7 (d + 1) 0 0 43 [some (.ref 0), some (.int x1), none, some (.int x3), some (.int x4), some (.int x5), none] [] (jKS, I, L, jR0) (jQm (some .int) Q) := by
  intro n
  induction n with
  | zero => intro x1 x3 x4 x5 I L h; exact h.elim
  | succ n ih =>
    intro x1 x3 x4 x5 I L h
    rw [wX11_rule_43] at h
    refine jr_iload dX11_rule_43 rfl ?_
    refine jr_iconst dX11_rule_45 kic_4 ?_
    refine jr_icmp_ge dX11_rule_46 (tgt := 78) (by decide) (fun c => ?_) (fun c => ?_)
    · rw [if_pos c] at h
      refine jr_iload_n dX11_rule_78 rfl rfl ?_
      exact jr_ireturn dX11_rule_79 ⟨Or.inr (Or.inl ⟨rfl, _, rfl⟩), _, _, rfl, h⟩
    · rw [if_neg c] at h
      refine jr_aload_n dX11_rule_49 rfl rfl ?_
      refine jr_iload_n dX11_rule_50 rfl rfl ?_
      refine jr_iload dX11_rule_51 rfl ?_
      refine jr_callV (mc2 := 0) (mc := 0) (ms2 := 0) (ms := 0) vm_X11_184 (av := [.int x1, .int x5]) (st := []) rfl rfl ks_0 (by decide) rfl (Nat.le_of_ble_eq_true rfl) dX11_rule_53 (cI_use (M := (yX11_overByRule, cX11_overByRule, 3, some .int)) h ?_)
      intro r1 I1 L1 h
      refine jr_istore dX11_rule_56 (by decide) rfl ?_
      refine jr_iload dX11_rule_58 rfl ?_
      refine jr_iload dX11_rule_60 rfl ?_
      refine jr_icmp_le dX11_rule_62 (tgt := 72) (by decide) (fun c => ?_) (fun c => ?_)
      · rw [if_pos c] at h
        refine jr_iinc dX11_rule_72 rfl (by rw [kic_1]) (by decide) rfl ?_
        refine jr_goto dX11_rule_75 (tgt := 43) (by decide) ?_
        exact J.sub (ih _ _ _ _ _ _ h) (jsub_some (jsub_some (jsub_none (jsub_some (jsub_some (jsub_some (jsub_none jsub_nil)))))))
      · rw [if_neg c] at h
        refine jr_iload dX11_rule_65 rfl ?_
        refine jr_istore dX11_rule_67 (by decide) rfl ?_
        refine jr_iload dX11_rule_69 rfl ?_
        refine jr_istore_n dX11_rule_71 rfl (by decide) rfl ?_
        refine jr_iinc dX11_rule_72 rfl (by rw [kic_1]) (by decide) rfl ?_
        refine jr_goto dX11_rule_75 (tgt := 43) (by decide) ?_
        exact J.sub (ih _ _ _ _ _ _ h) (jsub_some (jsub_some (jsub_none (jsub_some (jsub_some (jsub_some (jsub_none jsub_nil)))))))
def wX11_rule (G : jG) (l : Launch) (d : Nat) (x1 : Int32) (x2 : Int32) (I : jS) (L : jL) (Q : Option Value → jS → jL → Prop) : Prop := cI G l mX11_isWay d [.int x1] I L (fun r1 I1 L1 => (if r1 = 0 then (Q (some (.int (-1 : Int32))) I1 L1) else (if x2 < 0 then (Q (some (.int (-1 : Int32))) I1 L1) else (if x2 ≤ (4 : Int32) then (if (4 : Int32) ≤ x2 then (cI G l mX11_overByRule d [.ref 0, .int x1, .int (0 : Int32)] I1 L1 (fun r2 I2 L2 => (∃ e43 : Nat, wX11_rule_43 G l d Q e43 x1 (0 : Int32) r2 (1 : Int32) I2 L2))) else (cI G l mX11_overByRule d [.ref 0, .int x1, .int x2] I1 L1 (fun r3 I3 L3 => (Q (some (.int r3)) I3 L3)))) else (Q (some (.int (-1 : Int32))) I1 L1)))))
set_option maxRecDepth 100000 in
set_option maxHeartbeats 4000000 in
theorem wX11_rule_ok {G : jG} {l : Launch} {d : Nat} {Q : Option Value → jS → jL → Prop} {x1 : Int32} {x2 : Int32} {I : jS} {L : jL} (h : wX11_rule G l d x1 x2 I L Q) : cM G l mX11_rule (d + 1) [.ref 0, .int x1, .int x2] I L Q := by
  rw [wX11_rule] at h
  show jCall G l yX11_rule cX11_rule 7 (some .int) (d + 1) 0 0 _ (jKS, I, L, jR0) _
  refine jCall_of (n0 := 4) (ls := [some (.ref 0), some (.int x1), some (.int x2), none, none, none, none]) (by decide +kernel) rfl (Nat.le_of_ble_eq_true rfl) (jQm_of ?_)
  refine jr_iload_n dX11_rule_0 rfl rfl ?_
  refine jr_callS (mc2 := 0) (mc := 0) (ms2 := 0) (ms := 0) vm_X11_160 (av := [.int x1]) (st := []) rfl rfl (Nat.le_of_ble_eq_true rfl) dX11_rule_1 (cI_use (M := (yX11_isWay, cX11_isWay, 1, some .boolean)) h ?_)
  intro r1 I1 L1 h
  refine jr_if_eq dX11_rule_4 (tgt := 16) (by decide) (fun c => ?_) (fun c => ?_)
  · rw [if_pos c] at h
    refine jr_iconst dX11_rule_16 kic_m1 ?_
    exact jr_ireturn dX11_rule_17 ⟨Or.inr (Or.inl ⟨rfl, _, rfl⟩), _, _, rfl, h⟩
  · rw [if_neg c] at h
    refine jr_iload_n dX11_rule_7 rfl rfl ?_
    refine jr_if_lt dX11_rule_8 (tgt := 16) (by decide) (fun c => ?_) (fun c => ?_)
    · rw [if_pos c] at h
      refine jr_iconst dX11_rule_16 kic_m1 ?_
      exact jr_ireturn dX11_rule_17 ⟨Or.inr (Or.inl ⟨rfl, _, rfl⟩), _, _, rfl, h⟩
    · rw [if_neg c] at h
      refine jr_iload_n dX11_rule_11 rfl rfl ?_
      refine jr_iconst dX11_rule_12 kic_4 ?_
      refine jr_icmp_le dX11_rule_13 (tgt := 18) (by decide) (fun c => ?_) (fun c => ?_)
      · rw [if_pos c] at h
        refine jr_iload_n dX11_rule_18 rfl rfl ?_
        refine jr_iconst dX11_rule_19 kic_4 ?_
        refine jr_icmp_ge dX11_rule_20 (tgt := 30) (by decide) (fun c => ?_) (fun c => ?_)
        · rw [if_pos c] at h
          refine jr_iconst dX11_rule_30 kic_0 ?_
          refine jr_istore_n dX11_rule_31 rfl (by decide) rfl ?_
          refine jr_aload_n dX11_rule_32 rfl rfl ?_
          refine jr_iload_n dX11_rule_33 rfl rfl ?_
          refine jr_iconst dX11_rule_34 kic_0 ?_
          refine jr_callV (mc2 := 0) (mc := 0) (ms2 := 0) (ms := 0) vm_X11_184 (av := [.int x1, .int (0 : Int32)]) (st := []) rfl rfl ks_0 (by decide) rfl (Nat.le_of_ble_eq_true rfl) dX11_rule_35 (cI_use (M := (yX11_overByRule, cX11_overByRule, 3, some .int)) h ?_)
          intro r2 I2 L2 h
          refine jr_istore dX11_rule_38 (by decide) rfl ?_
          refine jr_iconst dX11_rule_40 kic_1 ?_
          refine jr_istore dX11_rule_41 (by decide) rfl ?_
          obtain ⟨e43, h⟩ := h
          exact J.sub (wX11_rule_43_ok  e43 _ _ _ _ _ _ h) (jsub_some (jsub_some (jsub_none (jsub_some (jsub_some (jsub_some (jsub_none jsub_nil)))))))
        · rw [if_neg c] at h
          refine jr_aload_n dX11_rule_23 rfl rfl ?_
          refine jr_iload_n dX11_rule_24 rfl rfl ?_
          refine jr_iload_n dX11_rule_25 rfl rfl ?_
          refine jr_callV (mc2 := 0) (mc := 0) (ms2 := 0) (ms := 0) vm_X11_184 (av := [.int x1, .int x2]) (st := []) rfl rfl ks_0 (by decide) rfl (Nat.le_of_ble_eq_true rfl) dX11_rule_26 (cI_use (M := (yX11_overByRule, cX11_overByRule, 3, some .int)) h ?_)
          intro r3 I3 L3 h
          exact jr_ireturn dX11_rule_29 ⟨Or.inr (Or.inl ⟨rfl, _, rfl⟩), _, _, rfl, h⟩
      · rw [if_neg c] at h
        refine jr_iconst dX11_rule_16 kic_m1 ?_
        exact jr_ireturn dX11_rule_17 ⟨Or.inr (Or.inl ⟨rfl, _, rfl⟩), _, _, rfl, h⟩
def wX11_waits (G : jG) (l : Launch) (d : Nat) (x1 : Int32) (x2 : Int32) (x3 : Int32) (I : jS) (L : jL) (Q : Option Value → jS → jL → Prop) : Prop := cI G l mX11_isShelf d [.int x1] I L (fun r1 I1 L1 => (if r1 = 0 then (Q (some (.int (-1 : Int32))) I1 L1) else (cI G l mX11_isWay d [.int x2] I1 L1 (fun r2 I2 L2 => (if r2 = 0 then (Q (some (.int (-1 : Int32))) I2 L2) else (if (-2 : Int32) ≤ x3 then (cI G l mX9_bytesRefusal d [.ref 57, .int x1] I2 L2 (fun r3 I3 L3 => (if r3 = 0 then (cV G l mX10_readOrder d [.ref 31, .ref 57, .int x1, .int (10 : Int32)] I3 L3 (fun I4 L4 => (if x3 < (I4 31 5) then (cV G l mX3_follow d [.ref 23, .ref 32, .ref 25] I4 L4 (fun I5 L5 => (cV G l mX10_walkWaiting d [.ref 31, .int x2] I5 L5 (fun I6 L6 => (if x3 = (-2 : Int32) then (Q (some (.int (I6 32 2))) I6 L6) else (if x3 = (-1 : Int32) then (cI G l mX10_allWaits d [.ref 31] I6 L6 (fun r8 I8 L8 => (Q (some (.int r8)) I8 L8))) else (cI G l mX10_waitOf d [.ref 31, .int x3] I6 L6 (fun r7 I7 L7 => (Q (some (.int r7)) I7 L7))))))))) else (Q (some (.int (-2 : Int32))) I4 L4)))) else (Q (some (.int r3)) I3 L3)))) else (Q (some (.int (-1 : Int32))) I2 L2)))))))
set_option maxRecDepth 100000 in
set_option maxHeartbeats 4000000 in
theorem wX11_waits_ok {G : jG} {l : Launch} {d : Nat} {Q : Option Value → jS → jL → Prop} {x1 : Int32} {x2 : Int32} {x3 : Int32} {I : jS} {L : jL} (h : wX11_waits G l d x1 x2 x3 I L Q) : cM G l mX11_waits (d + 1) [.ref 0, .int x1, .int x2, .int x3] I L Q := by
  rw [wX11_waits] at h
  show jCall G l yX11_waits cX11_waits 5 (some .int) (d + 1) 0 0 _ (jKS, I, L, jR0) _
  refine jCall_of (n0 := 1) (ls := [some (.ref 0), some (.int x1), some (.int x2), some (.int x3), none]) (by decide +kernel) rfl (Nat.le_of_ble_eq_true rfl) (jQm_of ?_)
  refine jr_iload_n dX11_waits_0 rfl rfl ?_
  refine jr_callS (mc2 := 0) (mc := 0) (ms2 := 0) (ms := 0) vm_X11_95 (av := [.int x1]) (st := []) rfl rfl (Nat.le_of_ble_eq_true rfl) dX11_waits_1 (cI_use (M := (yX11_isShelf, cX11_isShelf, 1, some .boolean)) h ?_)
  intro r1 I1 L1 h
  refine jr_if_eq dX11_waits_4 (tgt := 20) (by decide) (fun c => ?_) (fun c => ?_)
  · rw [if_pos c] at h
    refine jr_iconst dX11_waits_20 kic_m1 ?_
    exact jr_ireturn dX11_waits_21 ⟨Or.inr (Or.inl ⟨rfl, _, rfl⟩), _, _, rfl, h⟩
  · rw [if_neg c] at h
    refine jr_iload_n dX11_waits_7 rfl rfl ?_
    refine jr_callS (mc2 := 0) (mc := 0) (ms2 := 0) (ms := 0) vm_X11_160 (av := [.int x2]) (st := []) rfl rfl (Nat.le_of_ble_eq_true rfl) dX11_waits_8 (cI_use (M := (yX11_isWay, cX11_isWay, 1, some .boolean)) h ?_)
    intro r2 I2 L2 h
    refine jr_if_eq dX11_waits_11 (tgt := 20) (by decide) (fun c => ?_) (fun c => ?_)
    · rw [if_pos c] at h
      refine jr_iconst dX11_waits_20 kic_m1 ?_
      exact jr_ireturn dX11_waits_21 ⟨Or.inr (Or.inl ⟨rfl, _, rfl⟩), _, _, rfl, h⟩
    · rw [if_neg c] at h
      refine jr_iload_n dX11_waits_14 rfl rfl ?_
      refine jr_bipush dX11_waits_15 kbp_m2 ?_
      refine jr_icmp_ge dX11_waits_17 (tgt := 22) (by decide) (fun c => ?_) (fun c => ?_)
      · rw [if_pos c] at h
        refine jr_aload_n dX11_waits_22 rfl rfl ?_
        refine jr_geta ff_X11_72 ks_0 rr_0_8 dX11_waits_23 ?_
        refine jr_iload_n dX11_waits_26 rfl rfl ?_
        refine jr_callV (mc2 := 0) (mc := 0) (ms2 := 0) (ms := 0) vm_X11_163 (av := [.int x1]) (st := []) rfl rfl ks_57 (by decide) rfl (Nat.le_of_ble_eq_true rfl) dX11_waits_27 (cI_use (M := (yX9_bytesRefusal, cX9_bytesRefusal, 2, some .int)) h ?_)
        intro r3 I3 L3 h
        refine jr_istore dX11_waits_30 (by decide) rfl ?_
        refine jr_iload dX11_waits_32 rfl ?_
        refine jr_if_eq dX11_waits_34 (tgt := 40) (by decide) (fun c => ?_) (fun c => ?_)
        · rw [if_pos c] at h
          refine jr_aload_n dX11_waits_40 rfl rfl ?_
          refine jr_geta ff_X11_51 ks_0 rr_0_5 dX11_waits_41 ?_
          refine jr_aload_n dX11_waits_44 rfl rfl ?_
          refine jr_geta ff_X11_72 ks_0 rr_0_8 dX11_waits_45 ?_
          refine jr_iload_n dX11_waits_48 rfl rfl ?_
          refine jr_bipush dX11_waits_49 kbp_10 ?_
          refine jr_callV (mc2 := 0) (mc := 0) (ms2 := 0) (ms := 0) vm_X11_187 (av := [.ref 57, .int x1, .int (10 : Int32)]) (st := []) rfl rfl ks_31 (by decide) rfl (Nat.le_of_ble_eq_true rfl) dX11_waits_51 (cV_use (M := (yX10_readOrder, cX10_readOrder, 7, none)) h ?_)
          intro I4 L4 h
          refine jr_iload_n dX11_waits_54 rfl rfl ?_
          refine jr_aload_n dX11_waits_55 rfl rfl ?_
          refine jr_geta ff_X11_51 ks_0 rr_0_5 dX11_waits_56 ?_
          refine jv_geti rfl ff_X11_191 ks_31 dX11_waits_59 ?_
          refine jr_icmp_lt dX11_waits_62 (tgt := 68) (by decide) (fun c => ?_) (fun c => ?_)
          · rw [if_pos c] at h
            refine jr_aload_n dX11_waits_68 rfl rfl ?_
            refine jr_geta ff_X11_35 ks_0 rr_0_3 dX11_waits_69 ?_
            refine jr_aload_n dX11_waits_72 rfl rfl ?_
            refine jr_geta ff_X11_51 ks_0 rr_0_5 dX11_waits_73 ?_
            refine jr_geta ff_X11_176 ks_31 rr_31_2 dX11_waits_76 ?_
            refine jr_aload_n dX11_waits_79 rfl rfl ?_
            refine jr_geta ff_X11_42 ks_0 rr_0_4 dX11_waits_80 ?_
            refine jr_geta ff_X11_126 ks_24 rr_24_0 dX11_waits_83 ?_
            refine jr_callV (mc2 := 0) (mc := 0) (ms2 := 0) (ms := 0) vm_X11_194 (av := [.ref 32, .ref 25]) (st := []) rfl rfl ks_23 (by decide) rfl (Nat.le_of_ble_eq_true rfl) dX11_waits_86 (cV_use (M := (yX3_follow, cX3_follow, 3, none)) h ?_)
            intro I5 L5 h
            refine jr_aload_n dX11_waits_89 rfl rfl ?_
            refine jr_geta ff_X11_51 ks_0 rr_0_5 dX11_waits_90 ?_
            refine jr_iload_n dX11_waits_93 rfl rfl ?_
            refine jr_callV (mc2 := 0) (mc := 0) (ms2 := 0) (ms := 0) vm_X11_198 (av := [.int x2]) (st := []) rfl rfl ks_31 (by decide) rfl (Nat.le_of_ble_eq_true rfl) dX11_waits_94 (cV_use (M := (yX10_walkWaiting, cX10_walkWaiting, 4, none)) h ?_)
            intro I6 L6 h
            refine jr_iload_n dX11_waits_97 rfl rfl ?_
            refine jr_bipush dX11_waits_98 kbp_m2 ?_
            refine jr_icmp_ne dX11_waits_100 (tgt := 114) (by decide) (fun c => ?_) (fun c => ?_)
            · rw [if_neg c] at h
              refine jr_iload_n dX11_waits_114 rfl rfl ?_
              refine jr_iconst dX11_waits_115 kic_m1 ?_
              refine jr_icmp_ne dX11_waits_116 (tgt := 129) (by decide) (fun c => ?_) (fun c => ?_)
              · rw [if_neg c] at h
                refine jr_aload_n dX11_waits_129 rfl rfl ?_
                refine jr_geta ff_X11_51 ks_0 rr_0_5 dX11_waits_130 ?_
                refine jr_iload_n dX11_waits_133 rfl rfl ?_
                refine jr_callV (mc2 := 0) (mc := 0) (ms2 := 0) (ms := 0) vm_X11_205 (av := [.int x3]) (st := []) rfl rfl ks_31 (by decide) rfl (Nat.le_of_ble_eq_true rfl) dX11_waits_134 (cI_use (M := (yX10_waitOf, cX10_waitOf, 2, some .int)) h ?_)
                intro r7 I7 L7 h
                exact jr_ireturn dX11_waits_137 ⟨Or.inr (Or.inl ⟨rfl, _, rfl⟩), _, _, rfl, h⟩
              · rw [if_pos c] at h
                refine jr_aload_n dX11_waits_119 rfl rfl ?_
                refine jr_geta ff_X11_51 ks_0 rr_0_5 dX11_waits_120 ?_
                refine jr_callV (mc2 := 0) (mc := 0) (ms2 := 0) (ms := 0) vm_X11_202 (av := []) (st := []) rfl rfl ks_31 (by decide) rfl (Nat.le_of_ble_eq_true rfl) dX11_waits_123 (cI_use (M := (yX10_allWaits, cX10_allWaits, 3, some .int)) h ?_)
                intro r8 I8 L8 h
                refine jr_goto dX11_waits_126 (tgt := 137) (by decide) ?_
                exact jr_ireturn dX11_waits_137 ⟨Or.inr (Or.inl ⟨rfl, _, rfl⟩), _, _, rfl, h⟩
            · rw [if_pos c] at h
              refine jr_aload_n dX11_waits_103 rfl rfl ?_
              refine jr_geta ff_X11_51 ks_0 rr_0_5 dX11_waits_104 ?_
              refine jr_geta ff_X11_176 ks_31 rr_31_2 dX11_waits_107 ?_
              refine jv_geti rfl ff_X11_130 ks_32 dX11_waits_110 ?_
              exact jr_ireturn dX11_waits_113 ⟨Or.inr (Or.inl ⟨rfl, _, rfl⟩), _, _, rfl, h⟩
          · rw [if_neg c] at h
            refine jr_bipush dX11_waits_65 kbp_m2 ?_
            exact jr_ireturn dX11_waits_67 ⟨Or.inr (Or.inl ⟨rfl, _, rfl⟩), _, _, rfl, h⟩
        · rw [if_neg c] at h
          refine jr_iload dX11_waits_37 rfl ?_
          exact jr_ireturn dX11_waits_39 ⟨Or.inr (Or.inl ⟨rfl, _, rfl⟩), _, _, rfl, h⟩
      · rw [if_neg c] at h
        refine jr_iconst dX11_waits_20 kic_m1 ?_
        exact jr_ireturn dX11_waits_21 ⟨Or.inr (Or.inl ⟨rfl, _, rfl⟩), _, _, rfl, h⟩
def wX11_soonest (G : jG) (l : Launch) (d : Nat) (x1 : Int32) (x2 : Int32) (I : jS) (L : jL) (Q : Option Value → jS → jL → Prop) : Prop := cI G l mX11_isWay d [.int x1] I L (fun r1 I1 L1 => (if r1 = 0 then (Q (some (.int (-1 : Int32))) I1 L1) else (if (-1 : Int32) ≤ x2 then (if (I1 1 1) ≤ (5 : Int32) then (if x2 < (I1 1 1) then (cI G l mX8_soonestMinute d [.ref 37, .ref 25, .int x1] I1 L1 (fun r2 I2 L2 => (if r2 = (-2 : Int32) then (Q (some (.int r2)) I2 L2) else (if 0 ≤ x2 then (cI G l mX8_found d [.ref 37, .int x2] I2 L2 (fun r3 I3 L3 => (Q (some (.int r3)) I3 L3))) else (Q (some (.int r2)) I2 L2))))) else (Q (some (.int (-2 : Int32))) I1 L1)) else (Q (some (.int (-5 : Int32))) I1 L1)) else (Q (some (.int (-1 : Int32))) I1 L1))))
set_option maxRecDepth 100000 in
set_option maxHeartbeats 4000000 in
theorem wX11_soonest_ok {G : jG} {l : Launch} {d : Nat} {Q : Option Value → jS → jL → Prop} {x1 : Int32} {x2 : Int32} {I : jS} {L : jL} (h : wX11_soonest G l d x1 x2 I L Q) : cM G l mX11_soonest (d + 1) [.ref 0, .int x1, .int x2] I L Q := by
  rw [wX11_soonest] at h
  show jCall G l yX11_soonest cX11_soonest 4 (some .int) (d + 1) 0 0 _ (jKS, I, L, jR0) _
  refine jCall_of (n0 := 1) (ls := [some (.ref 0), some (.int x1), some (.int x2), none]) (by decide +kernel) rfl (Nat.le_of_ble_eq_true rfl) (jQm_of ?_)
  refine jr_iload_n dX11_soonest_0 rfl rfl ?_
  refine jr_callS (mc2 := 0) (mc := 0) (ms2 := 0) (ms := 0) vm_X11_160 (av := [.int x1]) (st := []) rfl rfl (Nat.le_of_ble_eq_true rfl) dX11_soonest_1 (cI_use (M := (yX11_isWay, cX11_isWay, 1, some .boolean)) h ?_)
  intro r1 I1 L1 h
  refine jr_if_eq dX11_soonest_4 (tgt := 12) (by decide) (fun c => ?_) (fun c => ?_)
  · rw [if_pos c] at h
    refine jr_iconst dX11_soonest_12 kic_m1 ?_
    exact jr_ireturn dX11_soonest_13 ⟨Or.inr (Or.inl ⟨rfl, _, rfl⟩), _, _, rfl, h⟩
  · rw [if_neg c] at h
    refine jr_iload_n dX11_soonest_7 rfl rfl ?_
    refine jr_iconst dX11_soonest_8 kic_m1 ?_
    refine jr_icmp_ge dX11_soonest_9 (tgt := 14) (by decide) (fun c => ?_) (fun c => ?_)
    · rw [if_pos c] at h
      refine jr_aload_n dX11_soonest_14 rfl rfl ?_
      refine jr_geta ff_X11_10 ks_0 rr_0_0 dX11_soonest_15 ?_
      refine jv_geti rfl ff_X11_87 ks_1 dX11_soonest_18 ?_
      refine jr_iconst dX11_soonest_21 kic_5 ?_
      refine jr_icmp_le dX11_soonest_22 (tgt := 28) (by decide) (fun c => ?_) (fun c => ?_)
      · rw [if_pos c] at h
        refine jr_iload_n dX11_soonest_28 rfl rfl ?_
        refine jr_aload_n dX11_soonest_29 rfl rfl ?_
        refine jr_geta ff_X11_10 ks_0 rr_0_0 dX11_soonest_30 ?_
        refine jv_geti rfl ff_X11_87 ks_1 dX11_soonest_33 ?_
        refine jr_icmp_lt dX11_soonest_36 (tgt := 42) (by decide) (fun c => ?_) (fun c => ?_)
        · rw [if_pos c] at h
          refine jr_aload_n dX11_soonest_42 rfl rfl ?_
          refine jr_geta ff_X11_58 ks_0 rr_0_6 dX11_soonest_43 ?_
          refine jr_aload_n dX11_soonest_46 rfl rfl ?_
          refine jr_geta ff_X11_42 ks_0 rr_0_4 dX11_soonest_47 ?_
          refine jr_geta ff_X11_126 ks_24 rr_24_0 dX11_soonest_50 ?_
          refine jr_iload_n dX11_soonest_53 rfl rfl ?_
          refine jr_callV (mc2 := 0) (mc := 0) (ms2 := 0) (ms := 0) vm_X11_208 (av := [.ref 25, .int x1]) (st := []) rfl rfl ks_37 (by decide) rfl (Nat.le_of_ble_eq_true rfl) dX11_soonest_54 (cI_use (M := (yX8_soonestMinute, cX8_soonestMinute, 3, some .int)) h ?_)
          intro r2 I2 L2 h
          refine jr_istore_n dX11_soonest_57 rfl (by decide) rfl ?_
          refine jr_iload_n dX11_soonest_58 rfl rfl ?_
          refine jr_bipush dX11_soonest_59 kbp_m2 ?_
          refine jr_icmp_eq dX11_soonest_61 (tgt := 68) (by decide) (fun c => ?_) (fun c => ?_)
          · rw [if_pos c] at h
            refine jr_iload_n dX11_soonest_68 rfl rfl ?_
            refine jr_goto dX11_soonest_69 (tgt := 80) (by decide) ?_
            exact jr_ireturn dX11_soonest_80 ⟨Or.inr (Or.inl ⟨rfl, _, rfl⟩), _, _, rfl, h⟩
          · rw [if_neg c] at h
            refine jr_iload_n dX11_soonest_64 rfl rfl ?_
            refine jr_if_ge dX11_soonest_65 (tgt := 72) (by decide) (fun c => ?_) (fun c => ?_)
            · rw [if_pos c] at h
              refine jr_aload_n dX11_soonest_72 rfl rfl ?_
              refine jr_geta ff_X11_58 ks_0 rr_0_6 dX11_soonest_73 ?_
              refine jr_iload_n dX11_soonest_76 rfl rfl ?_
              refine jr_callV (mc2 := 0) (mc := 0) (ms2 := 0) (ms := 0) vm_X11_181 (av := [.int x2]) (st := []) rfl rfl ks_37 (by decide) rfl (Nat.le_of_ble_eq_true rfl) dX11_soonest_77 (cI_use (M := (yX8_found, cX8_found, 2, some .int)) h ?_)
              intro r3 I3 L3 h
              exact jr_ireturn dX11_soonest_80 ⟨Or.inr (Or.inl ⟨rfl, _, rfl⟩), _, _, rfl, h⟩
            · rw [if_neg c] at h
              refine jr_iload_n dX11_soonest_68 rfl rfl ?_
              refine jr_goto dX11_soonest_69 (tgt := 80) (by decide) ?_
              exact jr_ireturn dX11_soonest_80 ⟨Or.inr (Or.inl ⟨rfl, _, rfl⟩), _, _, rfl, h⟩
        · rw [if_neg c] at h
          refine jr_bipush dX11_soonest_39 kbp_m2 ?_
          exact jr_ireturn dX11_soonest_41 ⟨Or.inr (Or.inl ⟨rfl, _, rfl⟩), _, _, rfl, h⟩
      · rw [if_neg c] at h
        refine jr_bipush dX11_soonest_25 kbp_m5 ?_
        exact jr_ireturn dX11_soonest_27 ⟨Or.inr (Or.inl ⟨rfl, _, rfl⟩), _, _, rfl, h⟩
    · rw [if_neg c] at h
      refine jr_iconst dX11_soonest_12 kic_m1 ?_
      exact jr_ireturn dX11_soonest_13 ⟨Or.inr (Or.inl ⟨rfl, _, rfl⟩), _, _, rfl, h⟩
def wX11_strength_48 (G : jG) (l : Launch) (d : Nat) (Q : Option Value → jS → jL → Prop) : Nat → Int32 → Int32 → jS → jL → Prop
  | 0, _, _, _, _ => False
  | n48 + 1, x2, x4, I, L => if (99 : Int32) < x4 then (Q (some (.int (-2 : Int32))) I L) else (cV G l mX3_follow d [.ref 23, .ref 32, .ref 25] I L (fun I1 L1 => (cV G l mX5_clearWay d [.ref 32, .int x2] I1 L1 (fun I2 L2 => (cV G l mX5_levelWay d [.ref 32, .int x2, .int x4] I2 L2 (fun I3 L3 => (cV G l mX10_walk d [.ref 31, .int x2] I3 L3 (fun I4 L4 => (if (I4 31 6) = (I4 31 5) then (Q (some (.int x4)) I4 L4) else ((wX11_strength_48 G l d Q n48) x2 (x4 + (1 : Int32)) I4 L4))))))))))
set_option maxRecDepth 100000 in
set_option maxHeartbeats 4000000 in
theorem wX11_strength_48_ok {G : jG} {l : Launch} {d : Nat} {Q : Option Value → jS → jL → Prop} : ∀ (n : Nat) (x2 : Int32) (x4 : Int32) (I : jS) (L : jL), wX11_strength_48 G l d Q n x2 x4 I L → J G l yX11_strength cX11_strength 5 (d + 1) 0 0 48 [some (.ref 0), none, some (.int x2), none, some (.int x4)] [] (jKS, I, L, jR0) (jQm (some .int) Q) := by
  intro n
  induction n with
  | zero => intro x2 x4 I L h; exact h.elim
  | succ n ih =>
    intro x2 x4 I L h
    rw [wX11_strength_48] at h
    refine jr_iload dX11_strength_48 rfl ?_
    refine jr_bipush dX11_strength_50 kbp_99 ?_
    refine jr_icmp_gt dX11_strength_52 (tgt := 134) (by decide) (fun c => ?_) (fun c => ?_)
    · rw [if_pos c] at h
      refine jr_bipush dX11_strength_134 kbp_m2 ?_
      exact jr_ireturn dX11_strength_136 ⟨Or.inr (Or.inl ⟨rfl, _, rfl⟩), _, _, rfl, h⟩
    · rw [if_neg c] at h
      refine jr_aload_n dX11_strength_55 rfl rfl ?_
      refine jr_geta ff_X11_35 ks_0 rr_0_3 dX11_strength_56 ?_
      refine jr_aload_n dX11_strength_59 rfl rfl ?_
      refine jr_geta ff_X11_51 ks_0 rr_0_5 dX11_strength_60 ?_
      refine jr_geta ff_X11_176 ks_31 rr_31_2 dX11_strength_63 ?_
      refine jr_aload_n dX11_strength_66 rfl rfl ?_
      refine jr_geta ff_X11_42 ks_0 rr_0_4 dX11_strength_67 ?_
      refine jr_geta ff_X11_126 ks_24 rr_24_0 dX11_strength_70 ?_
      refine jr_callV (mc2 := 0) (mc := 0) (ms2 := 0) (ms := 0) vm_X11_194 (av := [.ref 32, .ref 25]) (st := []) rfl rfl ks_23 (by decide) rfl (Nat.le_of_ble_eq_true rfl) dX11_strength_73 (cV_use (M := (yX3_follow, cX3_follow, 3, none)) h ?_)
      intro I1 L1 h
      refine jr_aload_n dX11_strength_76 rfl rfl ?_
      refine jr_geta ff_X11_51 ks_0 rr_0_5 dX11_strength_77 ?_
      refine jr_geta ff_X11_176 ks_31 rr_31_2 dX11_strength_80 ?_
      refine jr_iload_n dX11_strength_83 rfl rfl ?_
      refine jr_callV (mc2 := 0) (mc := 0) (ms2 := 0) (ms := 0) vm_X11_211 (av := [.int x2]) (st := []) rfl rfl ks_32 (by decide) rfl (Nat.le_of_ble_eq_true rfl) dX11_strength_84 (cV_use (M := (yX5_clearWay, cX5_clearWay, 3, none)) h ?_)
      intro I2 L2 h
      refine jr_aload_n dX11_strength_87 rfl rfl ?_
      refine jr_geta ff_X11_51 ks_0 rr_0_5 dX11_strength_88 ?_
      refine jr_geta ff_X11_176 ks_31 rr_31_2 dX11_strength_91 ?_
      refine jr_iload_n dX11_strength_94 rfl rfl ?_
      refine jr_iload dX11_strength_95 rfl ?_
      refine jr_callV (mc2 := 0) (mc := 0) (ms2 := 0) (ms := 0) vm_X11_214 (av := [.int x2, .int x4]) (st := []) rfl rfl ks_32 (by decide) rfl (Nat.le_of_ble_eq_true rfl) dX11_strength_97 (cV_use (M := (yX5_levelWay, cX5_levelWay, 4, none)) h ?_)
      intro I3 L3 h
      refine jr_aload_n dX11_strength_100 rfl rfl ?_
      refine jr_geta ff_X11_51 ks_0 rr_0_5 dX11_strength_101 ?_
      refine jr_iload_n dX11_strength_104 rfl rfl ?_
      refine jr_callV (mc2 := 0) (mc := 0) (ms2 := 0) (ms := 0) vm_X11_217 (av := [.int x2]) (st := []) rfl rfl ks_31 (by decide) rfl (Nat.le_of_ble_eq_true rfl) dX11_strength_105 (cV_use (M := (yX10_walk, cX10_walk, 4, none)) h ?_)
      intro I4 L4 h
      refine jr_aload_n dX11_strength_108 rfl rfl ?_
      refine jr_geta ff_X11_51 ks_0 rr_0_5 dX11_strength_109 ?_
      refine jv_geti rfl ff_X11_170 ks_31 dX11_strength_112 ?_
      refine jr_aload_n dX11_strength_115 rfl rfl ?_
      refine jr_geta ff_X11_51 ks_0 rr_0_5 dX11_strength_116 ?_
      refine jv_geti rfl ff_X11_191 ks_31 dX11_strength_119 ?_
      refine jr_icmp_ne dX11_strength_122 (tgt := 128) (by decide) (fun c => ?_) (fun c => ?_)
      · rw [if_neg c] at h
        refine jr_iinc dX11_strength_128 rfl (by rw [kic_1]) (by decide) rfl ?_
        refine jr_goto dX11_strength_131 (tgt := 48) (by decide) ?_
        exact J.sub (ih _ _ _ _ h) (jsub_some (jsub_none (jsub_some (jsub_none (jsub_some jsub_nil)))))
      · rw [if_pos c] at h
        refine jr_iload dX11_strength_125 rfl ?_
        exact jr_ireturn dX11_strength_127 ⟨Or.inr (Or.inl ⟨rfl, _, rfl⟩), _, _, rfl, h⟩
def wX11_strength (G : jG) (l : Launch) (d : Nat) (x1 : Int32) (x2 : Int32) (I : jS) (L : jL) (Q : Option Value → jS → jL → Prop) : Prop := cI G l mX11_isShelf d [.int x1] I L (fun r1 I1 L1 => (if r1 = 0 then (Q (some (.int (-1 : Int32))) I1 L1) else (cI G l mX11_isWay d [.int x2] I1 L1 (fun r2 I2 L2 => (if r2 = 0 then (Q (some (.int (-1 : Int32))) I2 L2) else (cI G l mX9_bytesRefusal d [.ref 57, .int x1] I2 L2 (fun r3 I3 L3 => (if r3 = 0 then (cV G l mX10_readOrder d [.ref 31, .ref 57, .int x1, .int (10 : Int32)] I3 L3 (fun I4 L4 => (∃ e48 : Nat, wX11_strength_48 G l d Q e48 x2 (0 : Int32) I4 L4))) else (Q (some (.int r3)) I3 L3)))))))))
set_option maxRecDepth 100000 in
set_option maxHeartbeats 4000000 in
theorem wX11_strength_ok {G : jG} {l : Launch} {d : Nat} {Q : Option Value → jS → jL → Prop} {x1 : Int32} {x2 : Int32} {I : jS} {L : jL} (h : wX11_strength G l d x1 x2 I L Q) : cM G l mX11_strength (d + 1) [.ref 0, .int x1, .int x2] I L Q := by
  rw [wX11_strength] at h
  show jCall G l yX11_strength cX11_strength 5 (some .int) (d + 1) 0 0 _ (jKS, I, L, jR0) _
  refine jCall_of (n0 := 2) (ls := [some (.ref 0), some (.int x1), some (.int x2), none, none]) (by decide +kernel) rfl (Nat.le_of_ble_eq_true rfl) (jQm_of ?_)
  refine jr_iload_n dX11_strength_0 rfl rfl ?_
  refine jr_callS (mc2 := 0) (mc := 0) (ms2 := 0) (ms := 0) vm_X11_95 (av := [.int x1]) (st := []) rfl rfl (Nat.le_of_ble_eq_true rfl) dX11_strength_1 (cI_use (M := (yX11_isShelf, cX11_isShelf, 1, some .boolean)) h ?_)
  intro r1 I1 L1 h
  refine jr_if_eq dX11_strength_4 (tgt := 14) (by decide) (fun c => ?_) (fun c => ?_)
  · rw [if_pos c] at h
    refine jr_iconst dX11_strength_14 kic_m1 ?_
    exact jr_ireturn dX11_strength_15 ⟨Or.inr (Or.inl ⟨rfl, _, rfl⟩), _, _, rfl, h⟩
  · rw [if_neg c] at h
    refine jr_iload_n dX11_strength_7 rfl rfl ?_
    refine jr_callS (mc2 := 0) (mc := 0) (ms2 := 0) (ms := 0) vm_X11_160 (av := [.int x2]) (st := []) rfl rfl (Nat.le_of_ble_eq_true rfl) dX11_strength_8 (cI_use (M := (yX11_isWay, cX11_isWay, 1, some .boolean)) h ?_)
    intro r2 I2 L2 h
    refine jr_if_ne dX11_strength_11 (tgt := 16) (by decide) (fun c => ?_) (fun c => ?_)
    · rw [if_neg c] at h
      refine jr_aload_n dX11_strength_16 rfl rfl ?_
      refine jr_geta ff_X11_72 ks_0 rr_0_8 dX11_strength_17 ?_
      refine jr_iload_n dX11_strength_20 rfl rfl ?_
      refine jr_callV (mc2 := 0) (mc := 0) (ms2 := 0) (ms := 0) vm_X11_163 (av := [.int x1]) (st := []) rfl rfl ks_57 (by decide) rfl (Nat.le_of_ble_eq_true rfl) dX11_strength_21 (cI_use (M := (yX9_bytesRefusal, cX9_bytesRefusal, 2, some .int)) h ?_)
      intro r3 I3 L3 h
      refine jr_istore_n dX11_strength_24 rfl (by decide) rfl ?_
      refine jr_iload_n dX11_strength_25 rfl rfl ?_
      refine jr_if_eq dX11_strength_26 (tgt := 31) (by decide) (fun c => ?_) (fun c => ?_)
      · rw [if_pos c] at h
        refine jr_aload_n dX11_strength_31 rfl rfl ?_
        refine jr_geta ff_X11_51 ks_0 rr_0_5 dX11_strength_32 ?_
        refine jr_aload_n dX11_strength_35 rfl rfl ?_
        refine jr_geta ff_X11_72 ks_0 rr_0_8 dX11_strength_36 ?_
        refine jr_iload_n dX11_strength_39 rfl rfl ?_
        refine jr_bipush dX11_strength_40 kbp_10 ?_
        refine jr_callV (mc2 := 0) (mc := 0) (ms2 := 0) (ms := 0) vm_X11_187 (av := [.ref 57, .int x1, .int (10 : Int32)]) (st := []) rfl rfl ks_31 (by decide) rfl (Nat.le_of_ble_eq_true rfl) dX11_strength_42 (cV_use (M := (yX10_readOrder, cX10_readOrder, 7, none)) h ?_)
        intro I4 L4 h
        refine jr_iconst dX11_strength_45 kic_0 ?_
        refine jr_istore dX11_strength_46 (by decide) rfl ?_
        obtain ⟨e48, h⟩ := h
        exact J.sub (wX11_strength_48_ok  e48 _ _ _ _ h) (jsub_some (jsub_none (jsub_some (jsub_none (jsub_some jsub_nil)))))
      · rw [if_neg c] at h
        refine jr_iload_n dX11_strength_29 rfl rfl ?_
        exact jr_ireturn dX11_strength_30 ⟨Or.inr (Or.inl ⟨rfl, _, rfl⟩), _, _, rfl, h⟩
    · rw [if_pos c] at h
      refine jr_iconst dX11_strength_14 kic_m1 ?_
      exact jr_ireturn dX11_strength_15 ⟨Or.inr (Or.inl ⟨rfl, _, rfl⟩), _, _, rfl, h⟩
def wX11_load_81 (G : jG) (l : Launch) (d : Nat) (Q : Option Value → jS → jL → Prop) : Nat → Int32 → Int32 → Int32 → Int32 → jS → jL → Prop
  | 0, _, _, _, _, _, _ => False
  | n81 + 1, x2, x4, x5, x6, I, L => if (9 : Int32) < x6 then (Q (some (.int (-2 : Int32))) I L) else (cI G l mX11_carried d [.ref 0, .int x4, .int x5, .int x2, .int x6] I L (fun r1 I1 L1 => (if r1 = x6 then (Q (some (.int x6)) I1 L1) else ((wX11_load_81 G l d Q n81) x2 x4 x5 (x6 + (1 : Int32)) I1 L1))))
set_option maxRecDepth 100000 in
set_option maxHeartbeats 4000000 in
theorem wX11_load_81_ok {G : jG} {l : Launch} {d : Nat} {Q : Option Value → jS → jL → Prop} : ∀ (n : Nat) (x2 : Int32) (x4 : Int32) (x5 : Int32) (x6 : Int32) (I : jS) (L : jL), wX11_load_81 G l d Q n x2 x4 x5 x6 I L → J G l yX11_load cX11_load 7 (d + 1) 0 0 81 [some (.ref 0), none, some (.int x2), none, some (.int x4), some (.int x5), some (.int x6)] [] (jKS, I, L, jR0) (jQm (some .int) Q) := by
  intro n
  induction n with
  | zero => intro x2 x4 x5 x6 I L h; exact h.elim
  | succ n ih =>
    intro x2 x4 x5 x6 I L h
    rw [wX11_load_81] at h
    refine jr_iload dX11_load_81 rfl ?_
    refine jr_bipush dX11_load_83 kbp_9 ?_
    refine jr_icmp_gt dX11_load_85 (tgt := 113) (by decide) (fun c => ?_) (fun c => ?_)
    · rw [if_pos c] at h
      refine jr_bipush dX11_load_113 kbp_m2 ?_
      exact jr_ireturn dX11_load_115 ⟨Or.inr (Or.inl ⟨rfl, _, rfl⟩), _, _, rfl, h⟩
    · rw [if_neg c] at h
      refine jr_aload_n dX11_load_88 rfl rfl ?_
      refine jr_iload dX11_load_89 rfl ?_
      refine jr_iload dX11_load_91 rfl ?_
      refine jr_iload_n dX11_load_93 rfl rfl ?_
      refine jr_iload dX11_load_94 rfl ?_
      refine jr_callV (mc2 := 0) (mc := 0) (ms2 := 0) (ms := 0) vm_X11_223 (av := [.int x4, .int x5, .int x2, .int x6]) (st := []) rfl rfl ks_0 (by decide) rfl (Nat.le_of_ble_eq_true rfl) dX11_load_96 (cI_use (M := (yX11_carried, cX11_carried, 5, some .int)) h ?_)
      intro r1 I1 L1 h
      refine jr_iload dX11_load_99 rfl ?_
      refine jr_icmp_ne dX11_load_101 (tgt := 107) (by decide) (fun c => ?_) (fun c => ?_)
      · rw [if_neg c] at h
        refine jr_iinc dX11_load_107 rfl (by rw [kic_1]) (by decide) rfl ?_
        refine jr_goto dX11_load_110 (tgt := 81) (by decide) ?_
        exact J.sub (ih _ _ _ _ _ _ h) (jsub_some (jsub_none (jsub_some (jsub_none (jsub_some (jsub_some (jsub_some jsub_nil)))))))
      · rw [if_pos c] at h
        refine jr_iload dX11_load_104 rfl ?_
        exact jr_ireturn dX11_load_106 ⟨Or.inr (Or.inl ⟨rfl, _, rfl⟩), _, _, rfl, h⟩
def wX11_load (G : jG) (l : Launch) (d : Nat) (x1 : Int32) (x2 : Int32) (x3 : Int32) (I : jS) (L : jL) (Q : Option Value → jS → jL → Prop) : Prop := if x1 < 0 then (Q (some (.int (-1 : Int32))) I L) else (cI G l mX11_isGoer d [.ref 0, .int (x1 / (10 : Int32))] I L (fun r1 I1 L1 => (if r1 = 0 then (Q (some (.int (-1 : Int32))) I1 L1) else (cI G l mX11_isWay d [.int (x1 - x1 / (10 : Int32) * (10 : Int32))] I1 L1 (fun r2 I2 L2 => (if r2 = 0 then (Q (some (.int (-1 : Int32))) I2 L2) else (if x2 < (1 : Int32) then (Q (some (.int (-1 : Int32))) I2 L2) else (if (200 : Int32) < x2 then (Q (some (.int (-1 : Int32))) I2 L2) else (if x3 < 0 then (Q (some (.int (-1 : Int32))) I2 L2) else (if x3 ≤ (9 : Int32) then (if x3 ≤ 0 then (∃ e81 : Nat, wX11_load_81 G l d Q e81 x2 (x1 / (10 : Int32)) (x1 - x1 / (10 : Int32) * (10 : Int32)) (1 : Int32) I2 L2) else (cI G l mX11_carried d [.ref 0, .int (x1 / (10 : Int32)), .int (x1 - x1 / (10 : Int32) * (10 : Int32)), .int x2, .int x3] I2 L2 (fun r3 I3 L3 => (Q (some (.int r3)) I3 L3)))) else (Q (some (.int (-1 : Int32))) I2 L2)))))))))))
set_option maxRecDepth 100000 in
set_option maxHeartbeats 4000000 in
theorem wX11_load_ok {G : jG} {l : Launch} {d : Nat} {Q : Option Value → jS → jL → Prop} {x1 : Int32} {x2 : Int32} {x3 : Int32} {I : jS} {L : jL} (h : wX11_load G l d x1 x2 x3 I L Q) : cM G l mX11_load (d + 1) [.ref 0, .int x1, .int x2, .int x3] I L Q := by
  rw [wX11_load] at h
  show jCall G l yX11_load cX11_load 7 (some .int) (d + 1) 0 0 _ (jKS, I, L, jR0) _
  refine jCall_of (n0 := 3) (ls := [some (.ref 0), some (.int x1), some (.int x2), some (.int x3), none, none, none]) (by decide +kernel) rfl (Nat.le_of_ble_eq_true rfl) (jQm_of ?_)
  refine jr_iload_n dX11_load_0 rfl rfl ?_
  refine jr_if_lt dX11_load_1 (tgt := 25) (by decide) (fun c => ?_) (fun c => ?_)
  · rw [if_pos c] at h
    refine jr_iconst dX11_load_25 kic_m1 ?_
    exact jr_ireturn dX11_load_26 ⟨Or.inr (Or.inl ⟨rfl, _, rfl⟩), _, _, rfl, h⟩
  · rw [if_neg c] at h
    refine jr_aload_n dX11_load_4 rfl rfl ?_
    refine jr_iload_n dX11_load_5 rfl rfl ?_
    refine jr_bipush dX11_load_6 kbp_10 ?_
    refine jr_idiv dX11_load_8 (by decide) ?_
    refine jr_callV (mc2 := 0) (mc := 0) (ms2 := 0) (ms := 0) vm_X11_220 (av := [.int (x1 / (10 : Int32))]) (st := []) rfl rfl ks_0 (by decide) rfl (Nat.le_of_ble_eq_true rfl) dX11_load_9 (cI_use (M := (yX11_isGoer, cX11_isGoer, 2, some .boolean)) h ?_)
    intro r1 I1 L1 h
    refine jr_if_eq dX11_load_12 (tgt := 25) (by decide) (fun c => ?_) (fun c => ?_)
    · rw [if_pos c] at h
      refine jr_iconst dX11_load_25 kic_m1 ?_
      exact jr_ireturn dX11_load_26 ⟨Or.inr (Or.inl ⟨rfl, _, rfl⟩), _, _, rfl, h⟩
    · rw [if_neg c] at h
      refine jr_iload_n dX11_load_15 rfl rfl ?_
      refine jr_bipush dX11_load_16 kbp_10 ?_
      refine jr_irem dX11_load_18 (by decide) ?_
      refine jr_callS (mc2 := 0) (mc := 0) (ms2 := 0) (ms := 0) vm_X11_160 (av := [.int (x1 - x1 / (10 : Int32) * (10 : Int32))]) (st := []) rfl rfl (Nat.le_of_ble_eq_true rfl) dX11_load_19 (cI_use (M := (yX11_isWay, cX11_isWay, 1, some .boolean)) h ?_)
      intro r2 I2 L2 h
      refine jr_if_ne dX11_load_22 (tgt := 27) (by decide) (fun c => ?_) (fun c => ?_)
      · rw [if_neg c] at h
        refine jr_iload_n dX11_load_27 rfl rfl ?_
        refine jr_iconst dX11_load_28 kic_1 ?_
        refine jr_icmp_lt dX11_load_29 (tgt := 49) (by decide) (fun c => ?_) (fun c => ?_)
        · rw [if_pos c] at h
          refine jr_iconst dX11_load_49 kic_m1 ?_
          exact jr_ireturn dX11_load_50 ⟨Or.inr (Or.inl ⟨rfl, _, rfl⟩), _, _, rfl, h⟩
        · rw [if_neg c] at h
          refine jr_iload_n dX11_load_32 rfl rfl ?_
          refine jr_sipush dX11_load_33 ksp_200 ?_
          refine jr_icmp_gt dX11_load_36 (tgt := 49) (by decide) (fun c => ?_) (fun c => ?_)
          · rw [if_pos c] at h
            refine jr_iconst dX11_load_49 kic_m1 ?_
            exact jr_ireturn dX11_load_50 ⟨Or.inr (Or.inl ⟨rfl, _, rfl⟩), _, _, rfl, h⟩
          · rw [if_neg c] at h
            refine jr_iload_n dX11_load_39 rfl rfl ?_
            refine jr_if_lt dX11_load_40 (tgt := 49) (by decide) (fun c => ?_) (fun c => ?_)
            · rw [if_pos c] at h
              refine jr_iconst dX11_load_49 kic_m1 ?_
              exact jr_ireturn dX11_load_50 ⟨Or.inr (Or.inl ⟨rfl, _, rfl⟩), _, _, rfl, h⟩
            · rw [if_neg c] at h
              refine jr_iload_n dX11_load_43 rfl rfl ?_
              refine jr_bipush dX11_load_44 kbp_9 ?_
              refine jr_icmp_le dX11_load_46 (tgt := 51) (by decide) (fun c => ?_) (fun c => ?_)
              · rw [if_pos c] at h
                refine jr_iload_n dX11_load_51 rfl rfl ?_
                refine jr_bipush dX11_load_52 kbp_10 ?_
                refine jr_idiv dX11_load_54 (by decide) ?_
                refine jr_istore dX11_load_55 (by decide) rfl ?_
                refine jr_iload_n dX11_load_57 rfl rfl ?_
                refine jr_bipush dX11_load_58 kbp_10 ?_
                refine jr_irem dX11_load_60 (by decide) ?_
                refine jr_istore dX11_load_61 (by decide) rfl ?_
                refine jr_iload_n dX11_load_63 rfl rfl ?_
                refine jr_if_le dX11_load_64 (tgt := 78) (by decide) (fun c => ?_) (fun c => ?_)
                · rw [if_pos c] at h
                  refine jr_iconst dX11_load_78 kic_1 ?_
                  refine jr_istore dX11_load_79 (by decide) rfl ?_
                  obtain ⟨e81, h⟩ := h
                  exact J.sub (wX11_load_81_ok  e81 _ _ _ _ _ _ h) (jsub_some (jsub_none (jsub_some (jsub_none (jsub_some (jsub_some (jsub_some jsub_nil)))))))
                · rw [if_neg c] at h
                  refine jr_aload_n dX11_load_67 rfl rfl ?_
                  refine jr_iload dX11_load_68 rfl ?_
                  refine jr_iload dX11_load_70 rfl ?_
                  refine jr_iload_n dX11_load_72 rfl rfl ?_
                  refine jr_iload_n dX11_load_73 rfl rfl ?_
                  refine jr_callV (mc2 := 0) (mc := 0) (ms2 := 0) (ms := 0) vm_X11_223 (av := [.int (x1 / (10 : Int32)), .int (x1 - x1 / (10 : Int32) * (10 : Int32)), .int x2, .int x3]) (st := []) rfl rfl ks_0 (by decide) rfl (Nat.le_of_ble_eq_true rfl) dX11_load_74 (cI_use (M := (yX11_carried, cX11_carried, 5, some .int)) h ?_)
                  intro r3 I3 L3 h
                  exact jr_ireturn dX11_load_77 ⟨Or.inr (Or.inl ⟨rfl, _, rfl⟩), _, _, rfl, h⟩
              · rw [if_neg c] at h
                refine jr_iconst dX11_load_49 kic_m1 ?_
                exact jr_ireturn dX11_load_50 ⟨Or.inr (Or.inl ⟨rfl, _, rfl⟩), _, _, rfl, h⟩
      · rw [if_pos c] at h
        refine jr_iconst dX11_load_25 kic_m1 ?_
        exact jr_ireturn dX11_load_26 ⟨Or.inr (Or.inl ⟨rfl, _, rfl⟩), _, _, rfl, h⟩
def wX11_several (G : jG) (l : Launch) (d : Nat) (x1 : Int32) (I : jS) (L : jL) (Q : Option Value → jS → jL → Prop) : Prop := if x1 < (-1 : Int32) then (Q (some (.int (-1 : Int32))) I L) else (if x1 < (I 1 1) then (cI G l mX8_mostParted d [.ref 37, .ref 25] I L (fun r1 I1 L1 => (if 0 ≤ x1 then (cI G l mX8_found d [.ref 37, .int x1] I1 L1 (fun r2 I2 L2 => (Q (some (.int r2)) I2 L2))) else (Q (some (.int r1)) I1 L1)))) else (Q (some (.int (-1 : Int32))) I L))
set_option maxRecDepth 100000 in
set_option maxHeartbeats 4000000 in
theorem wX11_several_ok {G : jG} {l : Launch} {d : Nat} {Q : Option Value → jS → jL → Prop} {x1 : Int32} {I : jS} {L : jL} (h : wX11_several G l d x1 I L Q) : cM G l mX11_several (d + 1) [.ref 0, .int x1] I L Q := by
  rw [wX11_several] at h
  show jCall G l yX11_several cX11_several 3 (some .int) (d + 1) 0 0 _ (jKS, I, L, jR0) _
  refine jCall_of (n0 := 1) (ls := [some (.ref 0), some (.int x1), none]) (by decide +kernel) rfl (Nat.le_of_ble_eq_true rfl) (jQm_of ?_)
  refine jr_iload_n dX11_several_0 rfl rfl ?_
  refine jr_iconst dX11_several_1 kic_m1 ?_
  refine jr_icmp_lt dX11_several_2 (tgt := 16) (by decide) (fun c => ?_) (fun c => ?_)
  · rw [if_pos c] at h
    refine jr_iconst dX11_several_16 kic_m1 ?_
    exact jr_ireturn dX11_several_17 ⟨Or.inr (Or.inl ⟨rfl, _, rfl⟩), _, _, rfl, h⟩
  · rw [if_neg c] at h
    refine jr_iload_n dX11_several_5 rfl rfl ?_
    refine jr_aload_n dX11_several_6 rfl rfl ?_
    refine jr_geta ff_X11_10 ks_0 rr_0_0 dX11_several_7 ?_
    refine jv_geti rfl ff_X11_87 ks_1 dX11_several_10 ?_
    refine jr_icmp_lt dX11_several_13 (tgt := 18) (by decide) (fun c => ?_) (fun c => ?_)
    · rw [if_pos c] at h
      refine jr_aload_n dX11_several_18 rfl rfl ?_
      refine jr_geta ff_X11_58 ks_0 rr_0_6 dX11_several_19 ?_
      refine jr_aload_n dX11_several_22 rfl rfl ?_
      refine jr_geta ff_X11_42 ks_0 rr_0_4 dX11_several_23 ?_
      refine jr_geta ff_X11_126 ks_24 rr_24_0 dX11_several_26 ?_
      refine jr_callV (mc2 := 0) (mc := 0) (ms2 := 0) (ms := 0) vm_X11_227 (av := [.ref 25]) (st := []) rfl rfl ks_37 (by decide) rfl (Nat.le_of_ble_eq_true rfl) dX11_several_29 (cI_use (M := (yX8_mostParted, cX8_mostParted, 2, some .int)) h ?_)
      intro r1 I1 L1 h
      refine jr_istore_n dX11_several_32 rfl (by decide) rfl ?_
      refine jr_iload_n dX11_several_33 rfl rfl ?_
      refine jr_if_ge dX11_several_34 (tgt := 41) (by decide) (fun c => ?_) (fun c => ?_)
      · rw [if_pos c] at h
        refine jr_aload_n dX11_several_41 rfl rfl ?_
        refine jr_geta ff_X11_58 ks_0 rr_0_6 dX11_several_42 ?_
        refine jr_iload_n dX11_several_45 rfl rfl ?_
        refine jr_callV (mc2 := 0) (mc := 0) (ms2 := 0) (ms := 0) vm_X11_181 (av := [.int x1]) (st := []) rfl rfl ks_37 (by decide) rfl (Nat.le_of_ble_eq_true rfl) dX11_several_46 (cI_use (M := (yX8_found, cX8_found, 2, some .int)) h ?_)
        intro r2 I2 L2 h
        exact jr_ireturn dX11_several_49 ⟨Or.inr (Or.inl ⟨rfl, _, rfl⟩), _, _, rfl, h⟩
      · rw [if_neg c] at h
        refine jr_iload_n dX11_several_37 rfl rfl ?_
        refine jr_goto dX11_several_38 (tgt := 49) (by decide) ?_
        exact jr_ireturn dX11_several_49 ⟨Or.inr (Or.inl ⟨rfl, _, rfl⟩), _, _, rfl, h⟩
    · rw [if_neg c] at h
      refine jr_iconst dX11_several_16 kic_m1 ?_
      exact jr_ireturn dX11_several_17 ⟨Or.inr (Or.inl ⟨rfl, _, rfl⟩), _, _, rfl, h⟩
def wX11_unsure (G : jG) (l : Launch) (d : Nat) (x1 : Int32) (x2 : Int32) (x3 : Int32) (I : jS) (L : jL) (Q : Option Value → jS → jL → Prop) : Prop := cI G l mX11_isShelf d [.int x1] I L (fun r1 I1 L1 => (if r1 = 0 then (Q (some (.long (-9223372036854775808 : Int64))) I1 L1) else (cI G l mX11_isWay d [.int x2] I1 L1 (fun r2 I2 L2 => (if r2 = 0 then (Q (some (.long (-9223372036854775808 : Int64))) I2 L2) else (if x3 < 0 then (Q (some (.long (-9223372036854775808 : Int64))) I2 L2) else (if x3 ≤ (1 : Int32) then (cI G l mX9_isBytes d [.ref 57, .int x1] I2 L2 (fun r3 I3 L3 => (if r3 = 0 then (Q (some (.long (-9223372036854775808 : Int64))) I3 L3) else (cV G l mX10_readOrder d [.ref 31, .ref 57, .int x1, .int (4 : Int32)] I3 L3 (fun I4 L4 => (cV G l mX1_look d [.ref 51, .ref 25, .int x2, .ref 31] I4 L4 (fun I5 L5 => (cJ G l mX1_likely d [.ref 51] I5 L5 (fun r6 I6 L6 => (cJ G l mX1_part d [.ref 51, .long r6, .int x3] I6 L6 (fun r7 I7 L7 => (Q (some (.long r7)) I7 L7)))))))))))) else (Q (some (.long (-9223372036854775808 : Int64))) I2 L2))))))))
set_option maxRecDepth 100000 in
set_option maxHeartbeats 4000000 in
theorem wX11_unsure_ok {G : jG} {l : Launch} {d : Nat} {Q : Option Value → jS → jL → Prop} {x1 : Int32} {x2 : Int32} {x3 : Int32} {I : jS} {L : jL} (h : wX11_unsure G l d x1 x2 x3 I L Q) : cM G l mX11_unsure (d + 1) [.ref 0, .int x1, .int x2, .int x3] I L Q := by
  rw [wX11_unsure] at h
  show jCall G l yX11_unsure cX11_unsure 4 (some .long) (d + 1) 0 0 _ (jKS, I, L, jR0) _
  refine jCall_of (n0 := 0) (ls := [some (.ref 0), some (.int x1), some (.int x2), some (.int x3)]) (by decide +kernel) rfl (Nat.le_of_ble_eq_true rfl) (jQm_of ?_)
  refine jr_iload_n dX11_unsure_0 rfl rfl ?_
  refine jr_callS (mc2 := 0) (mc := 0) (ms2 := 0) (ms := 0) vm_X11_95 (av := [.int x1]) (st := []) rfl rfl (Nat.le_of_ble_eq_true rfl) dX11_unsure_1 (cI_use (M := (yX11_isShelf, cX11_isShelf, 1, some .boolean)) h ?_)
  intro r1 I1 L1 h
  refine jr_if_eq dX11_unsure_4 (tgt := 23) (by decide) (fun c => ?_) (fun c => ?_)
  · rw [if_pos c] at h
    refine jr_ldc2 kl_X11_231 dX11_unsure_23 ?_
    exact jr_lreturn dX11_unsure_26 ⟨Or.inr (Or.inr (Or.inl ⟨rfl, _, rfl⟩)), _, _, rfl, h⟩
  · rw [if_neg c] at h
    refine jr_iload_n dX11_unsure_7 rfl rfl ?_
    refine jr_callS (mc2 := 0) (mc := 0) (ms2 := 0) (ms := 0) vm_X11_160 (av := [.int x2]) (st := []) rfl rfl (Nat.le_of_ble_eq_true rfl) dX11_unsure_8 (cI_use (M := (yX11_isWay, cX11_isWay, 1, some .boolean)) h ?_)
    intro r2 I2 L2 h
    refine jr_if_eq dX11_unsure_11 (tgt := 23) (by decide) (fun c => ?_) (fun c => ?_)
    · rw [if_pos c] at h
      refine jr_ldc2 kl_X11_231 dX11_unsure_23 ?_
      exact jr_lreturn dX11_unsure_26 ⟨Or.inr (Or.inr (Or.inl ⟨rfl, _, rfl⟩)), _, _, rfl, h⟩
    · rw [if_neg c] at h
      refine jr_iload_n dX11_unsure_14 rfl rfl ?_
      refine jr_if_lt dX11_unsure_15 (tgt := 23) (by decide) (fun c => ?_) (fun c => ?_)
      · rw [if_pos c] at h
        refine jr_ldc2 kl_X11_231 dX11_unsure_23 ?_
        exact jr_lreturn dX11_unsure_26 ⟨Or.inr (Or.inr (Or.inl ⟨rfl, _, rfl⟩)), _, _, rfl, h⟩
      · rw [if_neg c] at h
        refine jr_iload_n dX11_unsure_18 rfl rfl ?_
        refine jr_iconst dX11_unsure_19 kic_1 ?_
        refine jr_icmp_le dX11_unsure_20 (tgt := 27) (by decide) (fun c => ?_) (fun c => ?_)
        · rw [if_pos c] at h
          refine jr_aload_n dX11_unsure_27 rfl rfl ?_
          refine jr_geta ff_X11_72 ks_0 rr_0_8 dX11_unsure_28 ?_
          refine jr_iload_n dX11_unsure_31 rfl rfl ?_
          refine jr_callV (mc2 := 0) (mc := 0) (ms2 := 0) (ms := 0) vm_X11_102 (av := [.int x1]) (st := []) rfl rfl ks_57 (by decide) rfl (Nat.le_of_ble_eq_true rfl) dX11_unsure_32 (cI_use (M := (yX9_isBytes, cX9_isBytes, 2, some .boolean)) h ?_)
          intro r3 I3 L3 h
          refine jr_if_ne dX11_unsure_35 (tgt := 42) (by decide) (fun c => ?_) (fun c => ?_)
          · rw [if_neg c] at h
            refine jr_aload_n dX11_unsure_42 rfl rfl ?_
            refine jr_geta ff_X11_51 ks_0 rr_0_5 dX11_unsure_43 ?_
            refine jr_aload_n dX11_unsure_46 rfl rfl ?_
            refine jr_geta ff_X11_72 ks_0 rr_0_8 dX11_unsure_47 ?_
            refine jr_iload_n dX11_unsure_50 rfl rfl ?_
            refine jr_iconst dX11_unsure_51 kic_4 ?_
            refine jr_callV (mc2 := 0) (mc := 0) (ms2 := 0) (ms := 0) vm_X11_187 (av := [.ref 57, .int x1, .int (4 : Int32)]) (st := []) rfl rfl ks_31 (by decide) rfl (Nat.le_of_ble_eq_true rfl) dX11_unsure_52 (cV_use (M := (yX10_readOrder, cX10_readOrder, 7, none)) h ?_)
            intro I4 L4 h
            refine jr_aload_n dX11_unsure_55 rfl rfl ?_
            refine jr_geta ff_X11_65 ks_0 rr_0_7 dX11_unsure_56 ?_
            refine jr_aload_n dX11_unsure_59 rfl rfl ?_
            refine jr_geta ff_X11_42 ks_0 rr_0_4 dX11_unsure_60 ?_
            refine jr_geta ff_X11_126 ks_24 rr_24_0 dX11_unsure_63 ?_
            refine jr_iload_n dX11_unsure_66 rfl rfl ?_
            refine jr_aload_n dX11_unsure_67 rfl rfl ?_
            refine jr_geta ff_X11_51 ks_0 rr_0_5 dX11_unsure_68 ?_
            refine jr_callV (mc2 := 0) (mc := 0) (ms2 := 0) (ms := 0) vm_X11_233 (av := [.ref 25, .int x2, .ref 31]) (st := []) rfl rfl ks_51 (by decide) rfl (Nat.le_of_ble_eq_true rfl) dX11_unsure_71 (cV_use (M := (yX1_look, cX1_look, 9, none)) h ?_)
            intro I5 L5 h
            refine jr_aload_n dX11_unsure_74 rfl rfl ?_
            refine jr_geta ff_X11_65 ks_0 rr_0_7 dX11_unsure_75 ?_
            refine jr_aload_n dX11_unsure_78 rfl rfl ?_
            refine jr_geta ff_X11_65 ks_0 rr_0_7 dX11_unsure_79 ?_
            refine jr_callV (mc2 := 0) (mc := 0) (ms2 := 0) (ms := 0) vm_X11_237 (av := []) (st := [.ref 51]) rfl rfl ks_51 (by decide) rfl (Nat.le_of_ble_eq_true rfl) dX11_unsure_82 (cJ_use (M := (yX1_likely, cX1_likely, 1, some .long)) h ?_)
            intro r6 I6 L6 h
            refine jr_iload_n dX11_unsure_85 rfl rfl ?_
            refine jr_callV (mc2 := 0) (mc := 0) (ms2 := 0) (ms := 0) vm_X11_241 (av := [.long r6, .int x3]) (st := []) rfl rfl ks_51 (by decide) rfl (Nat.le_of_ble_eq_true rfl) dX11_unsure_86 (cJ_use (M := (yX1_part, cX1_part, 6, some .long)) h ?_)
            intro r7 I7 L7 h
            exact jr_lreturn dX11_unsure_89 ⟨Or.inr (Or.inr (Or.inl ⟨rfl, _, rfl⟩)), _, _, rfl, h⟩
          · rw [if_pos c] at h
            refine jr_ldc2 kl_X11_231 dX11_unsure_38 ?_
            exact jr_lreturn dX11_unsure_41 ⟨Or.inr (Or.inr (Or.inl ⟨rfl, _, rfl⟩)), _, _, rfl, h⟩
        · rw [if_neg c] at h
          refine jr_ldc2 kl_X11_231 dX11_unsure_23 ?_
          exact jr_lreturn dX11_unsure_26 ⟨Or.inr (Or.inr (Or.inl ⟨rfl, _, rfl⟩)), _, _, rfl, h⟩
def wX11_bore (G : jG) (l : Launch) (d : Nat) (x1 : Int32) (x2 : Int32) (x3 : Int32) (I : jS) (L : jL) (Q : Option Value → jS → jL → Prop) : Prop := cI G l mX11_isShelf d [.int x1] I L (fun r1 I1 L1 => (if r1 = 0 then (Q (some (.long (-9223372036854775808 : Int64))) I1 L1) else (cI G l mX11_isWay d [.int x2] I1 L1 (fun r2 I2 L2 => (if r2 = 0 then (Q (some (.long (-9223372036854775808 : Int64))) I2 L2) else (if x3 < 0 then (Q (some (.long (-9223372036854775808 : Int64))) I2 L2) else (if x3 ≤ (2 : Int32) then (cI G l mX9_isBytes d [.ref 57, .int x1] I2 L2 (fun r3 I3 L3 => (if r3 = 0 then (Q (some (.long (-9223372036854775808 : Int64))) I3 L3) else (cV G l mX10_readOrder d [.ref 31, .ref 57, .int x1, .int (4 : Int32)] I3 L3 (fun I4 L4 => (cV G l mX1_look d [.ref 51, .ref 25, .int x2, .ref 31] I4 L4 (fun I5 L5 => (cI G l mX1_bestBored d [.ref 51] I5 L5 (fun r6 I6 L6 => (if x3 = (2 : Int32) then (Q (some (.long (((x2 * (8 : Int32)) + r6).toInt64))) I6 L6) else (cJ G l mX1_likelyBored d [.ref 51, .int r6] I6 L6 (fun r7 I7 L7 => (cJ G l mX1_part d [.ref 51, .long r7, .int x3] I7 L7 (fun r8 I8 L8 => (Q (some (.long r8)) I8 L8))))))))))))))) else (Q (some (.long (-9223372036854775808 : Int64))) I2 L2))))))))
set_option maxRecDepth 100000 in
set_option maxHeartbeats 4000000 in
theorem wX11_bore_ok {G : jG} {l : Launch} {d : Nat} {Q : Option Value → jS → jL → Prop} {x1 : Int32} {x2 : Int32} {x3 : Int32} {I : jS} {L : jL} (h : wX11_bore G l d x1 x2 x3 I L Q) : cM G l mX11_bore (d + 1) [.ref 0, .int x1, .int x2, .int x3] I L Q := by
  rw [wX11_bore] at h
  show jCall G l yX11_bore cX11_bore 5 (some .long) (d + 1) 0 0 _ (jKS, I, L, jR0) _
  refine jCall_of (n0 := 1) (ls := [some (.ref 0), some (.int x1), some (.int x2), some (.int x3), none]) (by decide +kernel) rfl (Nat.le_of_ble_eq_true rfl) (jQm_of ?_)
  refine jr_iload_n dX11_bore_0 rfl rfl ?_
  refine jr_callS (mc2 := 0) (mc := 0) (ms2 := 0) (ms := 0) vm_X11_95 (av := [.int x1]) (st := []) rfl rfl (Nat.le_of_ble_eq_true rfl) dX11_bore_1 (cI_use (M := (yX11_isShelf, cX11_isShelf, 1, some .boolean)) h ?_)
  intro r1 I1 L1 h
  refine jr_if_eq dX11_bore_4 (tgt := 23) (by decide) (fun c => ?_) (fun c => ?_)
  · rw [if_pos c] at h
    refine jr_ldc2 kl_X11_231 dX11_bore_23 ?_
    exact jr_lreturn dX11_bore_26 ⟨Or.inr (Or.inr (Or.inl ⟨rfl, _, rfl⟩)), _, _, rfl, h⟩
  · rw [if_neg c] at h
    refine jr_iload_n dX11_bore_7 rfl rfl ?_
    refine jr_callS (mc2 := 0) (mc := 0) (ms2 := 0) (ms := 0) vm_X11_160 (av := [.int x2]) (st := []) rfl rfl (Nat.le_of_ble_eq_true rfl) dX11_bore_8 (cI_use (M := (yX11_isWay, cX11_isWay, 1, some .boolean)) h ?_)
    intro r2 I2 L2 h
    refine jr_if_eq dX11_bore_11 (tgt := 23) (by decide) (fun c => ?_) (fun c => ?_)
    · rw [if_pos c] at h
      refine jr_ldc2 kl_X11_231 dX11_bore_23 ?_
      exact jr_lreturn dX11_bore_26 ⟨Or.inr (Or.inr (Or.inl ⟨rfl, _, rfl⟩)), _, _, rfl, h⟩
    · rw [if_neg c] at h
      refine jr_iload_n dX11_bore_14 rfl rfl ?_
      refine jr_if_lt dX11_bore_15 (tgt := 23) (by decide) (fun c => ?_) (fun c => ?_)
      · rw [if_pos c] at h
        refine jr_ldc2 kl_X11_231 dX11_bore_23 ?_
        exact jr_lreturn dX11_bore_26 ⟨Or.inr (Or.inr (Or.inl ⟨rfl, _, rfl⟩)), _, _, rfl, h⟩
      · rw [if_neg c] at h
        refine jr_iload_n dX11_bore_18 rfl rfl ?_
        refine jr_iconst dX11_bore_19 kic_2 ?_
        refine jr_icmp_le dX11_bore_20 (tgt := 27) (by decide) (fun c => ?_) (fun c => ?_)
        · rw [if_pos c] at h
          refine jr_aload_n dX11_bore_27 rfl rfl ?_
          refine jr_geta ff_X11_72 ks_0 rr_0_8 dX11_bore_28 ?_
          refine jr_iload_n dX11_bore_31 rfl rfl ?_
          refine jr_callV (mc2 := 0) (mc := 0) (ms2 := 0) (ms := 0) vm_X11_102 (av := [.int x1]) (st := []) rfl rfl ks_57 (by decide) rfl (Nat.le_of_ble_eq_true rfl) dX11_bore_32 (cI_use (M := (yX9_isBytes, cX9_isBytes, 2, some .boolean)) h ?_)
          intro r3 I3 L3 h
          refine jr_if_ne dX11_bore_35 (tgt := 42) (by decide) (fun c => ?_) (fun c => ?_)
          · rw [if_neg c] at h
            refine jr_aload_n dX11_bore_42 rfl rfl ?_
            refine jr_geta ff_X11_51 ks_0 rr_0_5 dX11_bore_43 ?_
            refine jr_aload_n dX11_bore_46 rfl rfl ?_
            refine jr_geta ff_X11_72 ks_0 rr_0_8 dX11_bore_47 ?_
            refine jr_iload_n dX11_bore_50 rfl rfl ?_
            refine jr_iconst dX11_bore_51 kic_4 ?_
            refine jr_callV (mc2 := 0) (mc := 0) (ms2 := 0) (ms := 0) vm_X11_187 (av := [.ref 57, .int x1, .int (4 : Int32)]) (st := []) rfl rfl ks_31 (by decide) rfl (Nat.le_of_ble_eq_true rfl) dX11_bore_52 (cV_use (M := (yX10_readOrder, cX10_readOrder, 7, none)) h ?_)
            intro I4 L4 h
            refine jr_aload_n dX11_bore_55 rfl rfl ?_
            refine jr_geta ff_X11_65 ks_0 rr_0_7 dX11_bore_56 ?_
            refine jr_aload_n dX11_bore_59 rfl rfl ?_
            refine jr_geta ff_X11_42 ks_0 rr_0_4 dX11_bore_60 ?_
            refine jr_geta ff_X11_126 ks_24 rr_24_0 dX11_bore_63 ?_
            refine jr_iload_n dX11_bore_66 rfl rfl ?_
            refine jr_aload_n dX11_bore_67 rfl rfl ?_
            refine jr_geta ff_X11_51 ks_0 rr_0_5 dX11_bore_68 ?_
            refine jr_callV (mc2 := 0) (mc := 0) (ms2 := 0) (ms := 0) vm_X11_233 (av := [.ref 25, .int x2, .ref 31]) (st := []) rfl rfl ks_51 (by decide) rfl (Nat.le_of_ble_eq_true rfl) dX11_bore_71 (cV_use (M := (yX1_look, cX1_look, 9, none)) h ?_)
            intro I5 L5 h
            refine jr_aload_n dX11_bore_74 rfl rfl ?_
            refine jr_geta ff_X11_65 ks_0 rr_0_7 dX11_bore_75 ?_
            refine jr_callV (mc2 := 0) (mc := 0) (ms2 := 0) (ms := 0) vm_X11_245 (av := []) (st := []) rfl rfl ks_51 (by decide) rfl (Nat.le_of_ble_eq_true rfl) dX11_bore_78 (cI_use (M := (yX1_bestBored, cX1_bestBored, 3, some .int)) h ?_)
            intro r6 I6 L6 h
            refine jr_istore dX11_bore_81 (by decide) rfl ?_
            refine jr_iload_n dX11_bore_83 rfl rfl ?_
            refine jr_iconst dX11_bore_84 kic_2 ?_
            refine jr_icmp_ne dX11_bore_85 (tgt := 99) (by decide) (fun c => ?_) (fun c => ?_)
            · rw [if_neg c] at h
              refine jr_aload_n dX11_bore_99 rfl rfl ?_
              refine jr_geta ff_X11_65 ks_0 rr_0_7 dX11_bore_100 ?_
              refine jr_aload_n dX11_bore_103 rfl rfl ?_
              refine jr_geta ff_X11_65 ks_0 rr_0_7 dX11_bore_104 ?_
              refine jr_iload dX11_bore_107 rfl ?_
              refine jr_callV (mc2 := 0) (mc := 0) (ms2 := 0) (ms := 0) vm_X11_248 (av := [.int r6]) (st := [.ref 51]) rfl rfl ks_51 (by decide) rfl (Nat.le_of_ble_eq_true rfl) dX11_bore_109 (cJ_use (M := (yX1_likelyBored, cX1_likelyBored, 5, some .long)) h ?_)
              intro r7 I7 L7 h
              refine jr_iload_n dX11_bore_112 rfl rfl ?_
              refine jr_callV (mc2 := 0) (mc := 0) (ms2 := 0) (ms := 0) vm_X11_241 (av := [.long r7, .int x3]) (st := []) rfl rfl ks_51 (by decide) rfl (Nat.le_of_ble_eq_true rfl) dX11_bore_113 (cJ_use (M := (yX1_part, cX1_part, 6, some .long)) h ?_)
              intro r8 I8 L8 h
              exact jr_lreturn dX11_bore_116 ⟨Or.inr (Or.inr (Or.inl ⟨rfl, _, rfl⟩)), _, _, rfl, h⟩
            · rw [if_pos c] at h
              refine jr_iload_n dX11_bore_88 rfl rfl ?_
              refine jr_bipush dX11_bore_89 kbp_8 ?_
              refine jr_imul dX11_bore_91 ?_
              refine jr_iload dX11_bore_92 rfl ?_
              refine jr_iadd dX11_bore_94 ?_
              refine jr_i2l dX11_bore_95 ?_
              refine jr_goto dX11_bore_96 (tgt := 116) (by decide) ?_
              exact jr_lreturn dX11_bore_116 ⟨Or.inr (Or.inr (Or.inl ⟨rfl, _, rfl⟩)), _, _, rfl, h⟩
          · rw [if_pos c] at h
            refine jr_ldc2 kl_X11_231 dX11_bore_38 ?_
            exact jr_lreturn dX11_bore_41 ⟨Or.inr (Or.inr (Or.inl ⟨rfl, _, rfl⟩)), _, _, rfl, h⟩
        · rw [if_neg c] at h
          refine jr_ldc2 kl_X11_231 dX11_bore_23 ?_
          exact jr_lreturn dX11_bore_26 ⟨Or.inr (Or.inr (Or.inl ⟨rfl, _, rfl⟩)), _, _, rfl, h⟩
def wX11_safe_27 (G : jG) (l : Launch) (d : Nat) (Q : Option Value → jS → jL → Prop) : Nat → Int32 → Int64 → Int32 → jS → jL → Prop
  | 0, _, _, _, _, _ => False
  | n27 + 1, x2, y3, x5, I, L => if (3 : Int32) ≤ x5 then (Q (some (.int x2)) I L) else (cV G l mX1_look d [.ref 51, .ref 25, .int x5, .ref 31] I L (fun I1 L1 => (cJ G l mX1_likely d [.ref 51] I1 L1 (fun r2 I2 L2 => (if (lg_cmp r2 y3) ≤ 0 then ((wX11_safe_27 G l d Q n27) x2 y3 (x5 + (1 : Int32)) I2 L2) else ((wX11_safe_27 G l d Q n27) x5 r2 (x5 + (1 : Int32)) I2 L2))))))
set_option maxRecDepth 100000 in
set_option maxHeartbeats 4000000 in
theorem wX11_safe_27_ok {G : jG} {l : Launch} {d : Nat} {Q : Option Value → jS → jL → Prop} : ∀ (n : Nat) (x2 : Int32) (y3 : Int64) (x5 : Int32) (I : jS) (L : jL), wX11_safe_27 G l d Q n x2 y3 x5 I L → J G l yX11_safe cX11_safe 8 (d + 1) 0 0 27 [some (.ref 0), none, some (.int x2), some (.long y3), none, some (.int x5), none, none] [] (jKS, I, L, jR0) (jQm (some .int) Q) := by
  intro n
  induction n with
  | zero => intro x2 y3 x5 I L h; exact h.elim
  | succ n ih =>
    intro x2 y3 x5 I L h
    rw [wX11_safe_27] at h
    refine jr_iload dX11_safe_27 rfl ?_
    refine jr_iconst dX11_safe_29 kic_3 ?_
    refine jr_icmp_ge dX11_safe_30 (tgt := 81) (by decide) (fun c => ?_) (fun c => ?_)
    · rw [if_pos c] at h
      refine jr_iload_n dX11_safe_81 rfl rfl ?_
      exact jr_ireturn dX11_safe_82 ⟨Or.inr (Or.inl ⟨rfl, _, rfl⟩), _, _, rfl, h⟩
    · rw [if_neg c] at h
      refine jr_aload_n dX11_safe_33 rfl rfl ?_
      refine jr_geta ff_X11_65 ks_0 rr_0_7 dX11_safe_34 ?_
      refine jr_aload_n dX11_safe_37 rfl rfl ?_
      refine jr_geta ff_X11_42 ks_0 rr_0_4 dX11_safe_38 ?_
      refine jr_geta ff_X11_126 ks_24 rr_24_0 dX11_safe_41 ?_
      refine jr_iload dX11_safe_44 rfl ?_
      refine jr_aload_n dX11_safe_46 rfl rfl ?_
      refine jr_geta ff_X11_51 ks_0 rr_0_5 dX11_safe_47 ?_
      refine jr_callV (mc2 := 0) (mc := 0) (ms2 := 0) (ms := 0) vm_X11_233 (av := [.ref 25, .int x5, .ref 31]) (st := []) rfl rfl ks_51 (by decide) rfl (Nat.le_of_ble_eq_true rfl) dX11_safe_50 (cV_use (M := (yX1_look, cX1_look, 9, none)) h ?_)
      intro I1 L1 h
      refine jr_aload_n dX11_safe_53 rfl rfl ?_
      refine jr_geta ff_X11_65 ks_0 rr_0_7 dX11_safe_54 ?_
      refine jr_callV (mc2 := 0) (mc := 0) (ms2 := 0) (ms := 0) vm_X11_237 (av := []) (st := []) rfl rfl ks_51 (by decide) rfl (Nat.le_of_ble_eq_true rfl) dX11_safe_57 (cJ_use (M := (yX1_likely, cX1_likely, 1, some .long)) h ?_)
      intro r2 I2 L2 h
      refine jr_lstore dX11_safe_60 (by decide) rfl ?_
      refine jr_lload dX11_safe_62 rfl ?_
      refine jr_lload_n dX11_safe_64 rfl rfl ?_
      refine jr_lcmp dX11_safe_65 ?_
      refine jr_if_le dX11_safe_66 (tgt := 75) (by decide) (fun c => ?_) (fun c => ?_)
      · rw [if_pos c] at h
        refine jr_iinc dX11_safe_75 rfl (by rw [kic_1]) (by decide) rfl ?_
        refine jr_goto dX11_safe_78 (tgt := 27) (by decide) ?_
        exact J.sub (ih _ _ _ _ _ h) (jsub_some (jsub_none (jsub_some (jsub_some (jsub_none (jsub_some (jsub_none (jsub_none jsub_nil))))))))
      · rw [if_neg c] at h
        refine jr_lload dX11_safe_69 rfl ?_
        refine jr_lstore_n dX11_safe_71 rfl (by decide) rfl ?_
        refine jr_iload dX11_safe_72 rfl ?_
        refine jr_istore_n dX11_safe_74 rfl (by decide) rfl ?_
        refine jr_iinc dX11_safe_75 rfl (by rw [kic_1]) (by decide) rfl ?_
        refine jr_goto dX11_safe_78 (tgt := 27) (by decide) ?_
        exact J.sub (ih _ _ _ _ _ h) (jsub_some (jsub_none (jsub_some (jsub_some (jsub_none (jsub_some (jsub_none (jsub_none jsub_nil))))))))
def wX11_safe (G : jG) (l : Launch) (d : Nat) (x1 : Int32) (I : jS) (L : jL) (Q : Option Value → jS → jL → Prop) : Prop := cI G l mX11_isGoer d [.ref 0, .int x1] I L (fun r1 I1 L1 => (if r1 = 0 then (Q (some (.int (-1 : Int32))) I1 L1) else (cV G l mX10_alone d [.ref 31, .int x1] I1 L1 (fun I2 L2 => (∃ e27 : Nat, wX11_safe_27 G l d Q e27 (0 : Int32) (-1 : Int64) (0 : Int32) I2 L2)))))
set_option maxRecDepth 100000 in
set_option maxHeartbeats 4000000 in
theorem wX11_safe_ok {G : jG} {l : Launch} {d : Nat} {Q : Option Value → jS → jL → Prop} {x1 : Int32} {I : jS} {L : jL} (h : wX11_safe G l d x1 I L Q) : cM G l mX11_safe (d + 1) [.ref 0, .int x1] I L Q := by
  rw [wX11_safe] at h
  show jCall G l yX11_safe cX11_safe 8 (some .int) (d + 1) 0 0 _ (jKS, I, L, jR0) _
  refine jCall_of (n0 := 6) (ls := [some (.ref 0), some (.int x1), none, none, none, none, none, none]) (by decide +kernel) rfl (Nat.le_of_ble_eq_true rfl) (jQm_of ?_)
  refine jr_aload_n dX11_safe_0 rfl rfl ?_
  refine jr_iload_n dX11_safe_1 rfl rfl ?_
  refine jr_callV (mc2 := 0) (mc := 0) (ms2 := 0) (ms := 0) vm_X11_220 (av := [.int x1]) (st := []) rfl rfl ks_0 (by decide) rfl (Nat.le_of_ble_eq_true rfl) dX11_safe_2 (cI_use (M := (yX11_isGoer, cX11_isGoer, 2, some .boolean)) h ?_)
  intro r1 I1 L1 h
  refine jr_if_ne dX11_safe_5 (tgt := 10) (by decide) (fun c => ?_) (fun c => ?_)
  · rw [if_neg c] at h
    refine jr_aload_n dX11_safe_10 rfl rfl ?_
    refine jr_geta ff_X11_51 ks_0 rr_0_5 dX11_safe_11 ?_
    refine jr_iload_n dX11_safe_14 rfl rfl ?_
    refine jr_callV (mc2 := 0) (mc := 0) (ms2 := 0) (ms := 0) vm_X11_252 (av := [.int x1]) (st := []) rfl rfl ks_31 (by decide) rfl (Nat.le_of_ble_eq_true rfl) dX11_safe_15 (cV_use (M := (yX10_alone, cX10_alone, 2, none)) h ?_)
    intro I2 L2 h
    refine jr_iconst dX11_safe_18 kic_0 ?_
    refine jr_istore_n dX11_safe_19 rfl (by decide) rfl ?_
    refine jr_ldc2 kl_X11_255 dX11_safe_20 ?_
    refine jr_lstore_n dX11_safe_23 rfl (by decide) rfl ?_
    refine jr_iconst dX11_safe_24 kic_0 ?_
    refine jr_istore dX11_safe_25 (by decide) rfl ?_
    obtain ⟨e27, h⟩ := h
    exact J.sub (wX11_safe_27_ok  e27 _ _ _ _ _ h) (jsub_some (jsub_none (jsub_some (jsub_some (jsub_none (jsub_some (jsub_none (jsub_none jsub_nil))))))))
  · rw [if_pos c] at h
    refine jr_iconst dX11_safe_8 kic_m1 ?_
    exact jr_ireturn dX11_safe_9 ⟨Or.inr (Or.inl ⟨rfl, _, rfl⟩), _, _, rfl, h⟩
def wX11_who_100 (G : jG) (l : Launch) (d : Nat) (k67 : Int32 → Int32 → Int32 → Int32 → Int32 → Int32 → Int32 → Int32 → jS → jL → Prop) (Q : Option Value → jS → jL → Prop) (x1 : Int32) (x2 : Int32) (x3 : Int32) (x5 : Int32) (x7 : Int32) (x8 : Int32) (x9 : Int32) (t0 : Int32) (I : jS) (L : jL) : Prop := if x5 = 0 then (k67 x1 x2 x3 (x5 + (1 : Int32)) t0 x9 x8 (x9 + (1 : Int32)) I L) else (k67 x1 x2 x3 (x5 + (1 : Int32)) t0 (x7 &&& x9) x8 (x9 + (1 : Int32)) I L)
set_option maxRecDepth 100000 in
set_option maxHeartbeats 4000000 in
theorem wX11_who_100_ok {G : jG} {l : Launch} {d : Nat} {Q : Option Value → jS → jL → Prop} {k67 : Int32 → Int32 → Int32 → Int32 → Int32 → Int32 → Int32 → Int32 → jS → jL → Prop} (hk67 : ∀ (x1 : Int32) (x2 : Int32) (x3 : Int32) (x5 : Int32) (x6 : Int32) (x7 : Int32) (x8 : Int32) (x9 : Int32) (I : jS) (L : jL), k67 x1 x2 x3 x5 x6 x7 x8 x9 I L → J G l yX11_who cX11_who 10 (d + 1) 0 0 67 [some (.ref 0), some (.int x1), some (.int x2), some (.int x3), none, some (.int x5), some (.int x6), some (.int x7), some (.int x8), some (.int x9)] [] (jKS, I, L, jR0) (jQm (some .int) Q)) : ∀ (x1 : Int32) (x2 : Int32) (x3 : Int32) (x5 : Int32) (x7 : Int32) (x8 : Int32) (x9 : Int32) (t0 : Int32) (I : jS) (L : jL), wX11_who_100 G l d k67 Q x1 x2 x3 x5 x7 x8 x9 t0 I L → J G l yX11_who cX11_who 10 (d + 1) 0 0 100 [some (.ref 0), some (.int x1), some (.int x2), some (.int x3), none, some (.int x5), none, some (.int x7), some (.int x8), some (.int x9)] [.int t0] (jKS, I, L, jR0) (jQm (some .int) Q) := by
  intro x1 x2 x3 x5 x7 x8 x9 t0 I L h
  rw [wX11_who_100] at h
  refine jr_istore dX11_who_100 (by decide) rfl ?_
  refine jr_iload dX11_who_102 rfl ?_
  refine jr_if_ne dX11_who_104 (tgt := 112) (by decide) (fun c => ?_) (fun c => ?_)
  · rw [if_neg c] at h
    refine jr_iload dX11_who_112 rfl ?_
    refine jr_iload dX11_who_114 rfl ?_
    refine jr_iand dX11_who_116 ?_
    refine jr_istore dX11_who_117 (by decide) rfl ?_
    refine jr_iinc dX11_who_119 rfl (by rw [kic_1]) (by decide) rfl ?_
    refine jr_iinc dX11_who_122 rfl (by rw [kic_1]) (by decide) rfl ?_
    refine jr_goto dX11_who_125 (tgt := 67) (by decide) ?_
    exact J.sub (hk67 _ _ _ _ _ _ _ _ _ _ h) (jsub_some (jsub_some (jsub_some (jsub_some (jsub_none (jsub_some (jsub_some (jsub_some (jsub_some (jsub_some jsub_nil))))))))))
  · rw [if_pos c] at h
    refine jr_iload dX11_who_107 rfl ?_
    refine jr_goto dX11_who_109 (tgt := 117) (by decide) ?_
    refine jr_istore dX11_who_117 (by decide) rfl ?_
    refine jr_iinc dX11_who_119 rfl (by rw [kic_1]) (by decide) rfl ?_
    refine jr_iinc dX11_who_122 rfl (by rw [kic_1]) (by decide) rfl ?_
    refine jr_goto dX11_who_125 (tgt := 67) (by decide) ?_
    exact J.sub (hk67 _ _ _ _ _ _ _ _ _ _ h) (jsub_some (jsub_some (jsub_some (jsub_some (jsub_none (jsub_some (jsub_some (jsub_some (jsub_some (jsub_some jsub_nil))))))))))
def wX11_who_67 (G : jG) (l : Launch) (d : Nat) (Q : Option Value → jS → jL → Prop) : Nat → Int32 → Int32 → Int32 → Int32 → Int32 → Int32 → Int32 → Int32 → jS → jL → Prop
  | 0, _, _, _, _, _, _, _, _, _, _ => False
  | n67 + 1, x1, x2, x3, x5, x6, x7, x8, x9, I, L => if x8 ≤ x9 then (if x3 = 0 then (Q (some (.int x5)) I L) else (if x3 = (1 : Int32) then (Q (some (.int x6)) I L) else (Q (some (.int x7)) I L))) else (cI G l mX11_mayHaveGone d [.ref 0, .int x1, .int x2, .int x9] I L (fun r1 I1 L1 => (if r1 = 0 then ((wX11_who_67 G l d Q n67) x1 x2 x3 x5 x6 x7 x8 (x9 + (1 : Int32)) I1 L1) else (if x5 = 0 then (wX11_who_100 G l d (fun z0 z1 z2 z3 z4 z5 z6 z7 I L => wX11_who_67 G l d Q n67 z0 z1 z2 z3 z4 z5 z6 z7 I L) Q x1 x2 x3 x5 x7 x8 x9 x9 I1 L1) else (wX11_who_100 G l d (fun z0 z1 z2 z3 z4 z5 z6 z7 I L => wX11_who_67 G l d Q n67 z0 z1 z2 z3 z4 z5 z6 z7 I L) Q x1 x2 x3 x5 x7 x8 x9 x6 I1 L1)))))
set_option maxRecDepth 100000 in
set_option maxHeartbeats 4000000 in
theorem wX11_who_67_ok {G : jG} {l : Launch} {d : Nat} {Q : Option Value → jS → jL → Prop} : ∀ (n : Nat) (x1 : Int32) (x2 : Int32) (x3 : Int32) (x5 : Int32) (x6 : Int32) (x7 : Int32) (x8 : Int32) (x9 : Int32) (I : jS) (L : jL), wX11_who_67 G l d Q n x1 x2 x3 x5 x6 x7 x8 x9 I L → J G l yX11_who cX11_who 10 (d + 1) 0 0 67 [some (.ref 0), some (.int x1), some (.int x2), some (.int x3), none, some (.int x5), some (.int x6), some (.int x7), some (.int x8), some (.int x9)] [] (jKS, I, L, jR0) (jQm (some .int) Q) := by
  intro n
  induction n with
  | zero => intro x1 x2 x3 x5 x6 x7 x8 x9 I L h; exact h.elim
  | succ n ih =>
    intro x1 x2 x3 x5 x6 x7 x8 x9 I L h
    rw [wX11_who_67] at h
    refine jr_iload dX11_who_67 rfl ?_
    refine jr_iload dX11_who_69 rfl ?_
    refine jr_icmp_ge dX11_who_71 (tgt := 128) (by decide) (fun c => ?_) (fun c => ?_)
    · rw [if_pos c] at h
      refine jr_iload_n dX11_who_128 rfl rfl ?_
      refine jr_if_ne dX11_who_129 (tgt := 135) (by decide) (fun c => ?_) (fun c => ?_)
      · rw [if_neg c] at h
        refine jr_iload_n dX11_who_135 rfl rfl ?_
        refine jr_iconst dX11_who_136 kic_1 ?_
        refine jr_icmp_ne dX11_who_137 (tgt := 145) (by decide) (fun c => ?_) (fun c => ?_)
        · rw [if_neg c] at h
          refine jr_iload dX11_who_145 rfl ?_
          exact jr_ireturn dX11_who_147 ⟨Or.inr (Or.inl ⟨rfl, _, rfl⟩), _, _, rfl, h⟩
        · rw [if_pos c] at h
          refine jr_iload dX11_who_140 rfl ?_
          refine jr_goto dX11_who_142 (tgt := 147) (by decide) ?_
          exact jr_ireturn dX11_who_147 ⟨Or.inr (Or.inl ⟨rfl, _, rfl⟩), _, _, rfl, h⟩
      · rw [if_pos c] at h
        refine jr_iload dX11_who_132 rfl ?_
        exact jr_ireturn dX11_who_134 ⟨Or.inr (Or.inl ⟨rfl, _, rfl⟩), _, _, rfl, h⟩
    · rw [if_neg c] at h
      refine jr_aload_n dX11_who_74 rfl rfl ?_
      refine jr_iload_n dX11_who_75 rfl rfl ?_
      refine jr_iload_n dX11_who_76 rfl rfl ?_
      refine jr_iload dX11_who_77 rfl ?_
      refine jr_callV (mc2 := 0) (mc := 0) (ms2 := 0) (ms := 0) vm_X11_257 (av := [.int x1, .int x2, .int x9]) (st := []) rfl rfl ks_0 (by decide) rfl (Nat.le_of_ble_eq_true rfl) dX11_who_79 (cI_use (M := (yX11_mayHaveGone, cX11_mayHaveGone, 6, some .boolean)) h ?_)
      intro r1 I1 L1 h
      refine jr_if_ne dX11_who_82 (tgt := 88) (by decide) (fun c => ?_) (fun c => ?_)
      · rw [if_neg c] at h
        refine jr_iload dX11_who_88 rfl ?_
        refine jr_if_ne dX11_who_90 (tgt := 98) (by decide) (fun c => ?_) (fun c => ?_)
        · rw [if_neg c] at h
          refine jr_iload dX11_who_98 rfl ?_
          exact J.sub (wX11_who_100_ok  ih _ _ _ _ _ _ _ _ _ _ h) (jsub_some (jsub_some (jsub_some (jsub_some (jsub_none (jsub_some (jsub_none (jsub_some (jsub_some (jsub_some jsub_nil))))))))))
        · rw [if_pos c] at h
          refine jr_iload dX11_who_93 rfl ?_
          refine jr_goto dX11_who_95 (tgt := 100) (by decide) ?_
          exact J.sub (wX11_who_100_ok  ih _ _ _ _ _ _ _ _ _ _ h) (jsub_some (jsub_some (jsub_some (jsub_some (jsub_none (jsub_some (jsub_none (jsub_some (jsub_some (jsub_some jsub_nil))))))))))
      · rw [if_pos c] at h
        refine jr_goto dX11_who_85 (tgt := 122) (by decide) ?_
        refine jr_iinc dX11_who_122 rfl (by rw [kic_1]) (by decide) rfl ?_
        refine jr_goto dX11_who_125 (tgt := 67) (by decide) ?_
        exact J.sub (ih _ _ _ _ _ _ _ _ _ _ h) (jsub_some (jsub_some (jsub_some (jsub_some (jsub_none (jsub_some (jsub_some (jsub_some (jsub_some (jsub_some jsub_nil))))))))))
def wX11_who (G : jG) (l : Launch) (d : Nat) (x1 : Int32) (x2 : Int32) (x3 : Int32) (I : jS) (L : jL) (Q : Option Value → jS → jL → Prop) : Prop := cI G l mX11_isShelf d [.int x1] I L (fun r1 I1 L1 => (if r1 = 0 then (Q (some (.int (-1 : Int32))) I1 L1) else (cI G l mX11_isWay d [.int x2] I1 L1 (fun r2 I2 L2 => (if r2 = 0 then (Q (some (.int (-1 : Int32))) I2 L2) else (if x3 < 0 then (Q (some (.int (-1 : Int32))) I2 L2) else (if x3 ≤ (2 : Int32) then (cI G l mX9_bytesRefusal d [.ref 57, .int x1] I2 L2 (fun r3 I3 L3 => (if r3 = 0 then (∃ e67 : Nat, wX11_who_67 G l d Q e67 x1 x2 x3 (0 : Int32) (-2 : Int32) (0 : Int32) ((1 : Int32) <<< ((I3 1 1) &&& 31)) (0 : Int32) I3 L3) else (Q (some (.int r3)) I3 L3)))) else (Q (some (.int (-1 : Int32))) I2 L2))))))))
set_option maxRecDepth 100000 in
set_option maxHeartbeats 4000000 in
theorem wX11_who_ok {G : jG} {l : Launch} {d : Nat} {Q : Option Value → jS → jL → Prop} {x1 : Int32} {x2 : Int32} {x3 : Int32} {I : jS} {L : jL} (h : wX11_who G l d x1 x2 x3 I L Q) : cM G l mX11_who (d + 1) [.ref 0, .int x1, .int x2, .int x3] I L Q := by
  rw [wX11_who] at h
  show jCall G l yX11_who cX11_who 10 (some .int) (d + 1) 0 0 _ (jKS, I, L, jR0) _
  refine jCall_of (n0 := 6) (ls := [some (.ref 0), some (.int x1), some (.int x2), some (.int x3), none, none, none, none, none, none]) (by decide +kernel) rfl (Nat.le_of_ble_eq_true rfl) (jQm_of ?_)
  refine jr_iload_n dX11_who_0 rfl rfl ?_
  refine jr_callS (mc2 := 0) (mc := 0) (ms2 := 0) (ms := 0) vm_X11_95 (av := [.int x1]) (st := []) rfl rfl (Nat.le_of_ble_eq_true rfl) dX11_who_1 (cI_use (M := (yX11_isShelf, cX11_isShelf, 1, some .boolean)) h ?_)
  intro r1 I1 L1 h
  refine jr_if_eq dX11_who_4 (tgt := 23) (by decide) (fun c => ?_) (fun c => ?_)
  · rw [if_pos c] at h
    refine jr_iconst dX11_who_23 kic_m1 ?_
    exact jr_ireturn dX11_who_24 ⟨Or.inr (Or.inl ⟨rfl, _, rfl⟩), _, _, rfl, h⟩
  · rw [if_neg c] at h
    refine jr_iload_n dX11_who_7 rfl rfl ?_
    refine jr_callS (mc2 := 0) (mc := 0) (ms2 := 0) (ms := 0) vm_X11_160 (av := [.int x2]) (st := []) rfl rfl (Nat.le_of_ble_eq_true rfl) dX11_who_8 (cI_use (M := (yX11_isWay, cX11_isWay, 1, some .boolean)) h ?_)
    intro r2 I2 L2 h
    refine jr_if_eq dX11_who_11 (tgt := 23) (by decide) (fun c => ?_) (fun c => ?_)
    · rw [if_pos c] at h
      refine jr_iconst dX11_who_23 kic_m1 ?_
      exact jr_ireturn dX11_who_24 ⟨Or.inr (Or.inl ⟨rfl, _, rfl⟩), _, _, rfl, h⟩
    · rw [if_neg c] at h
      refine jr_iload_n dX11_who_14 rfl rfl ?_
      refine jr_if_lt dX11_who_15 (tgt := 23) (by decide) (fun c => ?_) (fun c => ?_)
      · rw [if_pos c] at h
        refine jr_iconst dX11_who_23 kic_m1 ?_
        exact jr_ireturn dX11_who_24 ⟨Or.inr (Or.inl ⟨rfl, _, rfl⟩), _, _, rfl, h⟩
      · rw [if_neg c] at h
        refine jr_iload_n dX11_who_18 rfl rfl ?_
        refine jr_iconst dX11_who_19 kic_2 ?_
        refine jr_icmp_le dX11_who_20 (tgt := 25) (by decide) (fun c => ?_) (fun c => ?_)
        · rw [if_pos c] at h
          refine jr_aload_n dX11_who_25 rfl rfl ?_
          refine jr_geta ff_X11_72 ks_0 rr_0_8 dX11_who_26 ?_
          refine jr_iload_n dX11_who_29 rfl rfl ?_
          refine jr_callV (mc2 := 0) (mc := 0) (ms2 := 0) (ms := 0) vm_X11_163 (av := [.int x1]) (st := []) rfl rfl ks_57 (by decide) rfl (Nat.le_of_ble_eq_true rfl) dX11_who_30 (cI_use (M := (yX9_bytesRefusal, cX9_bytesRefusal, 2, some .int)) h ?_)
          intro r3 I3 L3 h
          refine jr_istore dX11_who_33 (by decide) rfl ?_
          refine jr_iload dX11_who_35 rfl ?_
          refine jr_if_eq dX11_who_37 (tgt := 43) (by decide) (fun c => ?_) (fun c => ?_)
          · rw [if_pos c] at h
            refine jr_iconst dX11_who_43 kic_0 ?_
            refine jr_istore dX11_who_44 (by decide) rfl ?_
            refine jr_bipush dX11_who_46 kbp_m2 ?_
            refine jr_istore dX11_who_48 (by decide) rfl ?_
            refine jr_iconst dX11_who_50 kic_0 ?_
            refine jr_istore dX11_who_51 (by decide) rfl ?_
            refine jr_iconst dX11_who_53 kic_1 ?_
            refine jr_aload_n dX11_who_54 rfl rfl ?_
            refine jr_geta ff_X11_10 ks_0 rr_0_0 dX11_who_55 ?_
            refine jv_geti rfl ff_X11_87 ks_1 dX11_who_58 ?_
            refine jr_ishl dX11_who_61 ?_
            refine jr_istore dX11_who_62 (by decide) rfl ?_
            refine jr_iconst dX11_who_64 kic_0 ?_
            refine jr_istore dX11_who_65 (by decide) rfl ?_
            obtain ⟨e67, h⟩ := h
            exact J.sub (wX11_who_67_ok  e67 _ _ _ _ _ _ _ _ _ _ h) (jsub_some (jsub_some (jsub_some (jsub_some (jsub_none (jsub_some (jsub_some (jsub_some (jsub_some (jsub_some jsub_nil))))))))))
          · rw [if_neg c] at h
            refine jr_iload dX11_who_40 rfl ?_
            exact jr_ireturn dX11_who_42 ⟨Or.inr (Or.inl ⟨rfl, _, rfl⟩), _, _, rfl, h⟩
        · rw [if_neg c] at h
          refine jr_iconst dX11_who_23 kic_m1 ?_
          exact jr_ireturn dX11_who_24 ⟨Or.inr (Or.inl ⟨rfl, _, rfl⟩), _, _, rfl, h⟩
def wX11_judge_57 (G : jG) (l : Launch) (d : Nat) (Q : Option Value → jS → jL → Prop) : Nat → Int32 → Int32 → Int32 → jS → jL → Prop
  | 0, _, _, _, _, _ => False
  | n57 + 1, x1, x3, x4, I, L => if x3 ≤ x4 then (Q (some (.int (-2 : Int32))) I L) else (if x3 < (x4 + (3 : Int32)) then (Q (some (.int (x4 / (3 : Int32)))) I L) else (cI G l mX11_isSo d [.ref 0, .int x1, .int x4] I L (fun r1 I1 L1 => (if r1 = 0 then (Q (some (.int (x4 / (3 : Int32)))) I1 L1) else ((wX11_judge_57 G l d Q n57) x1 x3 (x4 + (3 : Int32)) I1 L1)))))
set_option maxRecDepth 100000 in
set_option maxHeartbeats 4000000 in
theorem wX11_judge_57_ok {G : jG} {l : Launch} {d : Nat} {Q : Option Value → jS → jL → Prop} : ∀ (n : Nat) (x1 : Int32) (x3 : Int32) (x4 : Int32) (I : jS) (L : jL), wX11_judge_57 G l d Q n x1 x3 x4 I L → J G l yX11_judge cX11_judge 5 (d + 1) 0 0 57 [some (.ref 0), some (.int x1), none, some (.int x3), some (.int x4)] [] (jKS, I, L, jR0) (jQm (some .int) Q) := by
  intro n
  induction n with
  | zero => intro x1 x3 x4 I L h; exact h.elim
  | succ n ih =>
    intro x1 x3 x4 I L h
    rw [wX11_judge_57] at h
    refine jr_iload dX11_judge_57 rfl ?_
    refine jr_iload_n dX11_judge_59 rfl rfl ?_
    refine jr_icmp_ge dX11_judge_60 (tgt := 92) (by decide) (fun c => ?_) (fun c => ?_)
    · rw [if_pos c] at h
      refine jr_bipush dX11_judge_92 kbp_m2 ?_
      exact jr_ireturn dX11_judge_94 ⟨Or.inr (Or.inl ⟨rfl, _, rfl⟩), _, _, rfl, h⟩
    · rw [if_neg c] at h
      refine jr_iload dX11_judge_63 rfl ?_
      refine jr_iconst dX11_judge_65 kic_3 ?_
      refine jr_iadd dX11_judge_66 ?_
      refine jr_iload_n dX11_judge_67 rfl rfl ?_
      refine jr_icmp_gt dX11_judge_68 (tgt := 81) (by decide) (fun c => ?_) (fun c => ?_)
      · rw [if_pos c] at h
        refine jr_iload dX11_judge_81 rfl ?_
        refine jr_iconst dX11_judge_83 kic_3 ?_
        refine jr_idiv dX11_judge_84 (by decide) ?_
        exact jr_ireturn dX11_judge_85 ⟨Or.inr (Or.inl ⟨rfl, _, rfl⟩), _, _, rfl, h⟩
      · rw [if_neg c] at h
        refine jr_aload_n dX11_judge_71 rfl rfl ?_
        refine jr_iload_n dX11_judge_72 rfl rfl ?_
        refine jr_iload dX11_judge_73 rfl ?_
        refine jr_callV (mc2 := 0) (mc := 0) (ms2 := 0) (ms := 0) vm_X11_263 (av := [.int x1, .int x4]) (st := []) rfl rfl ks_0 (by decide) rfl (Nat.le_of_ble_eq_true rfl) dX11_judge_75 (cI_use (M := (yX11_isSo, cX11_isSo, 7, some .boolean)) h ?_)
        intro r1 I1 L1 h
        refine jr_if_ne dX11_judge_78 (tgt := 86) (by decide) (fun c => ?_) (fun c => ?_)
        · rw [if_neg c] at h
          refine jr_iinc dX11_judge_86 rfl (by rw [kic_3]) (by decide) rfl ?_
          refine jr_goto dX11_judge_89 (tgt := 57) (by decide) ?_
          exact J.sub (ih _ _ _ _ _ h) (jsub_some (jsub_some (jsub_none (jsub_some (jsub_some jsub_nil)))))
        · rw [if_pos c] at h
          refine jr_iload dX11_judge_81 rfl ?_
          refine jr_iconst dX11_judge_83 kic_3 ?_
          refine jr_idiv dX11_judge_84 (by decide) ?_
          exact jr_ireturn dX11_judge_85 ⟨Or.inr (Or.inl ⟨rfl, _, rfl⟩), _, _, rfl, h⟩
def wX11_judge (G : jG) (l : Launch) (d : Nat) (x1 : Int32) (I : jS) (L : jL) (Q : Option Value → jS → jL → Prop) : Prop := cI G l mX11_isShelf d [.int x1] I L (fun r1 I1 L1 => (if r1 = 0 then (Q (some (.int (-1 : Int32))) I1 L1) else (cI G l mX9_bytesRefusal d [.ref 57, .int x1] I1 L1 (fun r2 I2 L2 => (if r2 = 0 then (cV G l mX3_follow d [.ref 23, .ref 32, .ref 25] I2 L2 (fun I3 L3 => (cI G l mX9_sizeOf d [.ref 57, .int x1] I3 L3 (fun r4 I4 L4 => (∃ e57 : Nat, wX11_judge_57 G l d Q e57 x1 r4 (0 : Int32) I4 L4))))) else (Q (some (.int r2)) I2 L2))))))
set_option maxRecDepth 100000 in
set_option maxHeartbeats 4000000 in
theorem wX11_judge_ok {G : jG} {l : Launch} {d : Nat} {Q : Option Value → jS → jL → Prop} {x1 : Int32} {I : jS} {L : jL} (h : wX11_judge G l d x1 I L Q) : cM G l mX11_judge (d + 1) [.ref 0, .int x1] I L Q := by
  rw [wX11_judge] at h
  show jCall G l yX11_judge cX11_judge 5 (some .int) (d + 1) 0 0 _ (jKS, I, L, jR0) _
  refine jCall_of (n0 := 3) (ls := [some (.ref 0), some (.int x1), none, none, none]) (by decide +kernel) rfl (Nat.le_of_ble_eq_true rfl) (jQm_of ?_)
  refine jr_iload_n dX11_judge_0 rfl rfl ?_
  refine jr_callS (mc2 := 0) (mc := 0) (ms2 := 0) (ms := 0) vm_X11_95 (av := [.int x1]) (st := []) rfl rfl (Nat.le_of_ble_eq_true rfl) dX11_judge_1 (cI_use (M := (yX11_isShelf, cX11_isShelf, 1, some .boolean)) h ?_)
  intro r1 I1 L1 h
  refine jr_if_ne dX11_judge_4 (tgt := 9) (by decide) (fun c => ?_) (fun c => ?_)
  · rw [if_neg c] at h
    refine jr_aload_n dX11_judge_9 rfl rfl ?_
    refine jr_geta ff_X11_72 ks_0 rr_0_8 dX11_judge_10 ?_
    refine jr_iload_n dX11_judge_13 rfl rfl ?_
    refine jr_callV (mc2 := 0) (mc := 0) (ms2 := 0) (ms := 0) vm_X11_163 (av := [.int x1]) (st := []) rfl rfl ks_57 (by decide) rfl (Nat.le_of_ble_eq_true rfl) dX11_judge_14 (cI_use (M := (yX9_bytesRefusal, cX9_bytesRefusal, 2, some .int)) h ?_)
    intro r2 I2 L2 h
    refine jr_istore_n dX11_judge_17 rfl (by decide) rfl ?_
    refine jr_iload_n dX11_judge_18 rfl rfl ?_
    refine jr_if_eq dX11_judge_19 (tgt := 24) (by decide) (fun c => ?_) (fun c => ?_)
    · rw [if_pos c] at h
      refine jr_aload_n dX11_judge_24 rfl rfl ?_
      refine jr_geta ff_X11_35 ks_0 rr_0_3 dX11_judge_25 ?_
      refine jr_aload_n dX11_judge_28 rfl rfl ?_
      refine jr_geta ff_X11_51 ks_0 rr_0_5 dX11_judge_29 ?_
      refine jr_geta ff_X11_176 ks_31 rr_31_2 dX11_judge_32 ?_
      refine jr_aload_n dX11_judge_35 rfl rfl ?_
      refine jr_geta ff_X11_42 ks_0 rr_0_4 dX11_judge_36 ?_
      refine jr_geta ff_X11_126 ks_24 rr_24_0 dX11_judge_39 ?_
      refine jr_callV (mc2 := 0) (mc := 0) (ms2 := 0) (ms := 0) vm_X11_194 (av := [.ref 32, .ref 25]) (st := []) rfl rfl ks_23 (by decide) rfl (Nat.le_of_ble_eq_true rfl) dX11_judge_42 (cV_use (M := (yX3_follow, cX3_follow, 3, none)) h ?_)
      intro I3 L3 h
      refine jr_aload_n dX11_judge_45 rfl rfl ?_
      refine jr_geta ff_X11_72 ks_0 rr_0_8 dX11_judge_46 ?_
      refine jr_iload_n dX11_judge_49 rfl rfl ?_
      refine jr_callV (mc2 := 0) (mc := 0) (ms2 := 0) (ms := 0) vm_X11_260 (av := [.int x1]) (st := []) rfl rfl ks_57 (by decide) rfl (Nat.le_of_ble_eq_true rfl) dX11_judge_50 (cI_use (M := (yX9_sizeOf, cX9_sizeOf, 2, some .int)) h ?_)
      intro r4 I4 L4 h
      refine jr_istore_n dX11_judge_53 rfl (by decide) rfl ?_
      refine jr_iconst dX11_judge_54 kic_0 ?_
      refine jr_istore dX11_judge_55 (by decide) rfl ?_
      obtain ⟨e57, h⟩ := h
      exact J.sub (wX11_judge_57_ok  e57 _ _ _ _ _ h) (jsub_some (jsub_some (jsub_none (jsub_some (jsub_some jsub_nil)))))
    · rw [if_neg c] at h
      refine jr_iload_n dX11_judge_22 rfl rfl ?_
      exact jr_ireturn dX11_judge_23 ⟨Or.inr (Or.inl ⟨rfl, _, rfl⟩), _, _, rfl, h⟩
  · rw [if_pos c] at h
    refine jr_iconst dX11_judge_7 kic_m1 ?_
    exact jr_ireturn dX11_judge_8 ⟨Or.inr (Or.inl ⟨rfl, _, rfl⟩), _, _, rfl, h⟩
def wX11_drawn_67 (G : jG) (l : Launch) (d : Nat) (Q : Option Value → jS → jL → Prop) : Nat → Int32 → Int32 → Int32 → Int32 → Int32 → Int32 → Int32 → jS → jL → Prop
  | 0, _, _, _, _, _, _, _, _, _ => False
  | n67 + 1, x3, x4, x5, x6, x7, x8, x9, I, L => if x4 ≤ x9 then (if x3 = 0 then (Q (some (.int x7)) I L) else (Q (some (.int x8)) I L)) else (cV G l mX3_follow d [.ref 23, .ref 32, .ref 25] I L (fun I1 L1 => (cI G l mX3_draw d [.ref 23, .ref 32, .int x5, .int x6] I1 L1 (fun r2 I2 L2 => (cV G l mX10_walk d [.ref 31, .int x5] I2 L2 (fun I3 L3 => (if (I3 31 6) = (I3 31 5) then ((wX11_drawn_67 G l d Q n67) x3 x4 x5 r2 (x7 + (I3 31 6)) (x8 + (1 : Int32)) (x9 + (1 : Int32)) I3 L3) else ((wX11_drawn_67 G l d Q n67) x3 x4 x5 r2 (x7 + (I3 31 6)) (x8 + (0 : Int32)) (x9 + (1 : Int32)) I3 L3))))))))
set_option maxRecDepth 100000 in
set_option maxHeartbeats 4000000 in
theorem wX11_drawn_67_ok {G : jG} {l : Launch} {d : Nat} {Q : Option Value → jS → jL → Prop} : ∀ (n : Nat) (x3 : Int32) (x4 : Int32) (x5 : Int32) (x6 : Int32) (x7 : Int32) (x8 : Int32) (x9 : Int32) (I : jS) (L : jL), wX11_drawn_67 G l d Q n x3 x4 x5 x6 x7 x8 x9 I L → J G l yX11_drawn cX11_drawn 10 (d + 1) 0 0 67 [some (.ref 0), none, none, some (.int x3), some (.int x4), some (.int x5), some (.int x6), some (.int x7), some (.int x8), some (.int x9)] [] (jKS, I, L, jR0) (jQm (some .int) Q) := by
  intro n
  induction n with
  | zero => intro x3 x4 x5 x6 x7 x8 x9 I L h; exact h.elim
  | succ n ih =>
    intro x3 x4 x5 x6 x7 x8 x9 I L h
    rw [wX11_drawn_67] at h
    refine jr_iload dX11_drawn_67 rfl ?_
    refine jr_iload dX11_drawn_69 rfl ?_
    refine jr_icmp_ge dX11_drawn_71 (tgt := 169) (by decide) (fun c => ?_) (fun c => ?_)
    · rw [if_pos c] at h
      refine jr_iload_n dX11_drawn_169 rfl rfl ?_
      refine jr_if_ne dX11_drawn_170 (tgt := 178) (by decide) (fun c => ?_) (fun c => ?_)
      · rw [if_neg c] at h
        refine jr_iload dX11_drawn_178 rfl ?_
        exact jr_ireturn dX11_drawn_180 ⟨Or.inr (Or.inl ⟨rfl, _, rfl⟩), _, _, rfl, h⟩
      · rw [if_pos c] at h
        refine jr_iload dX11_drawn_173 rfl ?_
        refine jr_goto dX11_drawn_175 (tgt := 180) (by decide) ?_
        exact jr_ireturn dX11_drawn_180 ⟨Or.inr (Or.inl ⟨rfl, _, rfl⟩), _, _, rfl, h⟩
    · rw [if_neg c] at h
      refine jr_aload_n dX11_drawn_74 rfl rfl ?_
      refine jr_geta ff_X11_35 ks_0 rr_0_3 dX11_drawn_75 ?_
      refine jr_aload_n dX11_drawn_78 rfl rfl ?_
      refine jr_geta ff_X11_51 ks_0 rr_0_5 dX11_drawn_79 ?_
      refine jr_geta ff_X11_176 ks_31 rr_31_2 dX11_drawn_82 ?_
      refine jr_aload_n dX11_drawn_85 rfl rfl ?_
      refine jr_geta ff_X11_42 ks_0 rr_0_4 dX11_drawn_86 ?_
      refine jr_geta ff_X11_126 ks_24 rr_24_0 dX11_drawn_89 ?_
      refine jr_callV (mc2 := 0) (mc := 0) (ms2 := 0) (ms := 0) vm_X11_194 (av := [.ref 32, .ref 25]) (st := []) rfl rfl ks_23 (by decide) rfl (Nat.le_of_ble_eq_true rfl) dX11_drawn_92 (cV_use (M := (yX3_follow, cX3_follow, 3, none)) h ?_)
      intro I1 L1 h
      refine jr_aload_n dX11_drawn_95 rfl rfl ?_
      refine jr_geta ff_X11_35 ks_0 rr_0_3 dX11_drawn_96 ?_
      refine jr_aload_n dX11_drawn_99 rfl rfl ?_
      refine jr_geta ff_X11_51 ks_0 rr_0_5 dX11_drawn_100 ?_
      refine jr_geta ff_X11_176 ks_31 rr_31_2 dX11_drawn_103 ?_
      refine jr_iload dX11_drawn_106 rfl ?_
      refine jr_iload dX11_drawn_108 rfl ?_
      refine jr_callV (mc2 := 0) (mc := 0) (ms2 := 0) (ms := 0) vm_X11_269 (av := [.ref 32, .int x5, .int x6]) (st := []) rfl rfl ks_23 (by decide) rfl (Nat.le_of_ble_eq_true rfl) dX11_drawn_110 (cI_use (M := (yX3_draw, cX3_draw, 7, some .int)) h ?_)
      intro r2 I2 L2 h
      refine jr_istore dX11_drawn_113 (by decide) rfl ?_
      refine jr_aload_n dX11_drawn_115 rfl rfl ?_
      refine jr_geta ff_X11_51 ks_0 rr_0_5 dX11_drawn_116 ?_
      refine jr_iload dX11_drawn_119 rfl ?_
      refine jr_callV (mc2 := 0) (mc := 0) (ms2 := 0) (ms := 0) vm_X11_217 (av := [.int x5]) (st := []) rfl rfl ks_31 (by decide) rfl (Nat.le_of_ble_eq_true rfl) dX11_drawn_121 (cV_use (M := (yX10_walk, cX10_walk, 4, none)) h ?_)
      intro I3 L3 h
      refine jr_iload dX11_drawn_124 rfl ?_
      refine jr_aload_n dX11_drawn_126 rfl rfl ?_
      refine jr_geta ff_X11_51 ks_0 rr_0_5 dX11_drawn_127 ?_
      refine jv_geti rfl ff_X11_170 ks_31 dX11_drawn_130 ?_
      refine jr_iadd dX11_drawn_133 ?_
      refine jr_istore dX11_drawn_134 (by decide) rfl ?_
      refine jr_iload dX11_drawn_136 rfl ?_
      refine jr_aload_n dX11_drawn_138 rfl rfl ?_
      refine jr_geta ff_X11_51 ks_0 rr_0_5 dX11_drawn_139 ?_
      refine jv_geti rfl ff_X11_170 ks_31 dX11_drawn_142 ?_
      refine jr_aload_n dX11_drawn_145 rfl rfl ?_
      refine jr_geta ff_X11_51 ks_0 rr_0_5 dX11_drawn_146 ?_
      refine jv_geti rfl ff_X11_191 ks_31 dX11_drawn_149 ?_
      refine jr_icmp_ne dX11_drawn_152 (tgt := 159) (by decide) (fun c => ?_) (fun c => ?_)
      · rw [if_neg c] at h
        refine jr_iconst dX11_drawn_159 kic_0 ?_
        refine jr_iadd dX11_drawn_160 ?_
        refine jr_istore dX11_drawn_161 (by decide) rfl ?_
        refine jr_iinc dX11_drawn_163 rfl (by rw [kic_1]) (by decide) rfl ?_
        refine jr_goto dX11_drawn_166 (tgt := 67) (by decide) ?_
        exact J.sub (ih _ _ _ _ _ _ _ _ _ h) (jsub_some (jsub_none (jsub_none (jsub_some (jsub_some (jsub_some (jsub_some (jsub_some (jsub_some (jsub_some jsub_nil))))))))))
      · rw [if_pos c] at h
        refine jr_iconst dX11_drawn_155 kic_1 ?_
        refine jr_goto dX11_drawn_156 (tgt := 160) (by decide) ?_
        refine jr_iadd dX11_drawn_160 ?_
        refine jr_istore dX11_drawn_161 (by decide) rfl ?_
        refine jr_iinc dX11_drawn_163 rfl (by rw [kic_1]) (by decide) rfl ?_
        refine jr_goto dX11_drawn_166 (tgt := 67) (by decide) ?_
        exact J.sub (ih _ _ _ _ _ _ _ _ _ h) (jsub_some (jsub_none (jsub_none (jsub_some (jsub_some (jsub_some (jsub_some (jsub_some (jsub_some (jsub_some jsub_nil))))))))))
def wX11_drawn (G : jG) (l : Launch) (d : Nat) (x1 : Int32) (x2 : Int32) (x3 : Int32) (I : jS) (L : jL) (Q : Option Value → jS → jL → Prop) : Prop := if x2 < (10 : Int32) then (Q (some (.int (-1 : Int32))) I L) else (if (20 : Int32) < (x2 / (10 : Int32)) then (Q (some (.int (-1 : Int32))) I L) else (cI G l mX11_isWay d [.int (x2 - x2 / (10 : Int32) * (10 : Int32))] I L (fun r1 I1 L1 => (if r1 = 0 then (Q (some (.int (-1 : Int32))) I1 L1) else (if x3 < 0 then (Q (some (.int (-1 : Int32))) I1 L1) else (if x3 ≤ (1 : Int32) then (cV G l mX10_byNumbers d [.ref 31] I1 L1 (fun I2 L2 => (∃ e67 : Nat, wX11_drawn_67 G l d Q e67 x3 (x2 / (10 : Int32)) (x2 - x2 / (10 : Int32) * (10 : Int32)) x1 (0 : Int32) (0 : Int32) (0 : Int32) I2 L2))) else (Q (some (.int (-1 : Int32))) I1 L1)))))))
set_option maxRecDepth 100000 in
set_option maxHeartbeats 4000000 in
theorem wX11_drawn_ok {G : jG} {l : Launch} {d : Nat} {Q : Option Value → jS → jL → Prop} {x1 : Int32} {x2 : Int32} {x3 : Int32} {I : jS} {L : jL} (h : wX11_drawn G l d x1 x2 x3 I L Q) : cM G l mX11_drawn (d + 1) [.ref 0, .int x1, .int x2, .int x3] I L Q := by
  rw [wX11_drawn] at h
  show jCall G l yX11_drawn cX11_drawn 10 (some .int) (d + 1) 0 0 _ (jKS, I, L, jR0) _
  refine jCall_of (n0 := 6) (ls := [some (.ref 0), some (.int x1), some (.int x2), some (.int x3), none, none, none, none, none, none]) (by decide +kernel) rfl (Nat.le_of_ble_eq_true rfl) (jQm_of ?_)
  refine jr_iload_n dX11_drawn_0 rfl rfl ?_
  refine jr_bipush dX11_drawn_1 kbp_10 ?_
  refine jr_icmp_lt dX11_drawn_3 (tgt := 34) (by decide) (fun c => ?_) (fun c => ?_)
  · rw [if_pos c] at h
    refine jr_iconst dX11_drawn_34 kic_m1 ?_
    exact jr_ireturn dX11_drawn_35 ⟨Or.inr (Or.inl ⟨rfl, _, rfl⟩), _, _, rfl, h⟩
  · rw [if_neg c] at h
    refine jr_iload_n dX11_drawn_6 rfl rfl ?_
    refine jr_bipush dX11_drawn_7 kbp_10 ?_
    refine jr_idiv dX11_drawn_9 (by decide) ?_
    refine jr_bipush dX11_drawn_10 kbp_20 ?_
    refine jr_icmp_gt dX11_drawn_12 (tgt := 34) (by decide) (fun c => ?_) (fun c => ?_)
    · rw [if_pos c] at h
      refine jr_iconst dX11_drawn_34 kic_m1 ?_
      exact jr_ireturn dX11_drawn_35 ⟨Or.inr (Or.inl ⟨rfl, _, rfl⟩), _, _, rfl, h⟩
    · rw [if_neg c] at h
      refine jr_iload_n dX11_drawn_15 rfl rfl ?_
      refine jr_bipush dX11_drawn_16 kbp_10 ?_
      refine jr_irem dX11_drawn_18 (by decide) ?_
      refine jr_callS (mc2 := 0) (mc := 0) (ms2 := 0) (ms := 0) vm_X11_160 (av := [.int (x2 - x2 / (10 : Int32) * (10 : Int32))]) (st := []) rfl rfl (Nat.le_of_ble_eq_true rfl) dX11_drawn_19 (cI_use (M := (yX11_isWay, cX11_isWay, 1, some .boolean)) h ?_)
      intro r1 I1 L1 h
      refine jr_if_eq dX11_drawn_22 (tgt := 34) (by decide) (fun c => ?_) (fun c => ?_)
      · rw [if_pos c] at h
        refine jr_iconst dX11_drawn_34 kic_m1 ?_
        exact jr_ireturn dX11_drawn_35 ⟨Or.inr (Or.inl ⟨rfl, _, rfl⟩), _, _, rfl, h⟩
      · rw [if_neg c] at h
        refine jr_iload_n dX11_drawn_25 rfl rfl ?_
        refine jr_if_lt dX11_drawn_26 (tgt := 34) (by decide) (fun c => ?_) (fun c => ?_)
        · rw [if_pos c] at h
          refine jr_iconst dX11_drawn_34 kic_m1 ?_
          exact jr_ireturn dX11_drawn_35 ⟨Or.inr (Or.inl ⟨rfl, _, rfl⟩), _, _, rfl, h⟩
        · rw [if_neg c] at h
          refine jr_iload_n dX11_drawn_29 rfl rfl ?_
          refine jr_iconst dX11_drawn_30 kic_1 ?_
          refine jr_icmp_le dX11_drawn_31 (tgt := 36) (by decide) (fun c => ?_) (fun c => ?_)
          · rw [if_pos c] at h
            refine jr_iload_n dX11_drawn_36 rfl rfl ?_
            refine jr_bipush dX11_drawn_37 kbp_10 ?_
            refine jr_idiv dX11_drawn_39 (by decide) ?_
            refine jr_istore dX11_drawn_40 (by decide) rfl ?_
            refine jr_iload_n dX11_drawn_42 rfl rfl ?_
            refine jr_bipush dX11_drawn_43 kbp_10 ?_
            refine jr_irem dX11_drawn_45 (by decide) ?_
            refine jr_istore dX11_drawn_46 (by decide) rfl ?_
            refine jr_iload_n dX11_drawn_48 rfl rfl ?_
            refine jr_istore dX11_drawn_49 (by decide) rfl ?_
            refine jr_iconst dX11_drawn_51 kic_0 ?_
            refine jr_istore dX11_drawn_52 (by decide) rfl ?_
            refine jr_iconst dX11_drawn_54 kic_0 ?_
            refine jr_istore dX11_drawn_55 (by decide) rfl ?_
            refine jr_aload_n dX11_drawn_57 rfl rfl ?_
            refine jr_geta ff_X11_51 ks_0 rr_0_5 dX11_drawn_58 ?_
            refine jr_callV (mc2 := 0) (mc := 0) (ms2 := 0) (ms := 0) vm_X11_266 (av := []) (st := []) rfl rfl ks_31 (by decide) rfl (Nat.le_of_ble_eq_true rfl) dX11_drawn_61 (cV_use (M := (yX10_byNumbers, cX10_byNumbers, 1, none)) h ?_)
            intro I2 L2 h
            refine jr_iconst dX11_drawn_64 kic_0 ?_
            refine jr_istore dX11_drawn_65 (by decide) rfl ?_
            obtain ⟨e67, h⟩ := h
            exact J.sub (wX11_drawn_67_ok  e67 _ _ _ _ _ _ _ _ _ h) (jsub_some (jsub_none (jsub_none (jsub_some (jsub_some (jsub_some (jsub_some (jsub_some (jsub_some (jsub_some jsub_nil))))))))))
          · rw [if_neg c] at h
            refine jr_iconst dX11_drawn_34 kic_m1 ?_
            exact jr_ireturn dX11_drawn_35 ⟨Or.inr (Or.inl ⟨rfl, _, rfl⟩), _, _, rfl, h⟩

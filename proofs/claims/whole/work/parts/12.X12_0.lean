def wX12_within (G : jG) (l : Launch) (d : Nat) (y0 : Int64) (y2 : Int64) (y4 : Int64) (I : jS) (L : jL) (Q : Option Value → jS → jL → Prop) : Prop := if (lg_cmp y0 y2) < 0 then (Q (some (.int (0 : Int32))) I L) else (if 0 < (lg_cmp y0 y4) then (Q (some (.int (0 : Int32))) I L) else (Q (some (.int (1 : Int32))) I L))
set_option maxRecDepth 100000 in
set_option maxHeartbeats 4000000 in
theorem wX12_within_ok {G : jG} {l : Launch} {d : Nat} {Q : Option Value → jS → jL → Prop} {y0 : Int64} {y2 : Int64} {y4 : Int64} {I : jS} {L : jL} (h : wX12_within G l d y0 y2 y4 I L Q) : cM G l mX12_within (d + 1) [.long y0, .long y2, .long y4] I L Q := by
  rw [wX12_within] at h
  show jCall G l yX12_within cX12_within 6 (some .boolean) (d + 1) 0 0 _ (jKS, I, L, jR0) _
  refine jCall_of (n0 := 0) (ls := [some (.long y0), none, some (.long y2), none, some (.long y4), none]) (by decide +kernel) rfl (Nat.le_of_ble_eq_true rfl) (jQm_of ?_)
  refine jr_lload_n dX12_within_0 rfl rfl ?_
  refine jr_lload_n dX12_within_1 rfl rfl ?_
  refine jr_lcmp dX12_within_2 ?_
  refine jr_if_lt dX12_within_3 (tgt := 17) (by decide) (fun c => ?_) (fun c => ?_)
  · rw [if_pos c] at h
    refine jr_iconst dX12_within_17 kic_0 ?_
    exact jr_ireturn dX12_within_18 ⟨Or.inr (Or.inr (Or.inr ⟨rfl, Or.inl rfl⟩)), _, _, rfl, h⟩
  · rw [if_neg c] at h
    refine jr_lload_n dX12_within_6 rfl rfl ?_
    refine jr_lload dX12_within_7 rfl ?_
    refine jr_lcmp dX12_within_9 ?_
    refine jr_if_gt dX12_within_10 (tgt := 17) (by decide) (fun c => ?_) (fun c => ?_)
    · rw [if_pos c] at h
      refine jr_iconst dX12_within_17 kic_0 ?_
      exact jr_ireturn dX12_within_18 ⟨Or.inr (Or.inr (Or.inr ⟨rfl, Or.inl rfl⟩)), _, _, rfl, h⟩
    · rw [if_neg c] at h
      refine jr_iconst dX12_within_13 kic_1 ?_
      refine jr_goto dX12_within_14 (tgt := 18) (by decide) ?_
      exact jr_ireturn dX12_within_18 ⟨Or.inr (Or.inr (Or.inr ⟨rfl, Or.inr rfl⟩)), _, _, rfl, h⟩
def wX12_isIn (G : jG) (l : Launch) (d : Nat) (x0 : Int32) (x1 : Int32) (I : jS) (L : jL) (Q : Option Value → jS → jL → Prop) : Prop := if ((x0 >>> (x1 &&& 31)) &&& (1 : Int32)) = (1 : Int32) then (Q (some (.int (1 : Int32))) I L) else (Q (some (.int (0 : Int32))) I L)
set_option maxRecDepth 100000 in
set_option maxHeartbeats 4000000 in
theorem wX12_isIn_ok {G : jG} {l : Launch} {d : Nat} {Q : Option Value → jS → jL → Prop} {x0 : Int32} {x1 : Int32} {I : jS} {L : jL} (h : wX12_isIn G l d x0 x1 I L Q) : cM G l mX12_isIn (d + 1) [.int x0, .int x1] I L Q := by
  rw [wX12_isIn] at h
  show jCall G l yX12_isIn cX12_isIn 2 (some .boolean) (d + 1) 0 0 _ (jKS, I, L, jR0) _
  refine jCall_of (n0 := 0) (ls := [some (.int x0), some (.int x1)]) (by decide +kernel) rfl (Nat.le_of_ble_eq_true rfl) (jQm_of ?_)
  refine jr_iload_n dX12_isIn_0 rfl rfl ?_
  refine jr_iload_n dX12_isIn_1 rfl rfl ?_
  refine jr_ishr dX12_isIn_2 ?_
  refine jr_iconst dX12_isIn_3 kic_1 ?_
  refine jr_iand dX12_isIn_4 ?_
  refine jr_iconst dX12_isIn_5 kic_1 ?_
  refine jr_icmp_ne dX12_isIn_6 (tgt := 13) (by decide) (fun c => ?_) (fun c => ?_)
  · rw [if_neg c] at h
    refine jr_iconst dX12_isIn_13 kic_0 ?_
    exact jr_ireturn dX12_isIn_14 ⟨Or.inr (Or.inr (Or.inr ⟨rfl, Or.inl rfl⟩)), _, _, rfl, h⟩
  · rw [if_pos c] at h
    refine jr_iconst dX12_isIn_9 kic_1 ?_
    refine jr_goto dX12_isIn_10 (tgt := 14) (by decide) ?_
    exact jr_ireturn dX12_isIn_14 ⟨Or.inr (Or.inr (Or.inr ⟨rfl, Or.inr rfl⟩)), _, _, rfl, h⟩
def wX12_less (G : jG) (l : Launch) (d : Nat) (x0 : Int32) (x1 : Int32) (I : jS) (L : jL) (Q : Option Value → jS → jL → Prop) : Prop := if x0 ≤ x1 then (Q (some (.int (0 : Int32))) I L) else (Q (some (.int (x0 - x1))) I L)
set_option maxRecDepth 100000 in
set_option maxHeartbeats 4000000 in
theorem wX12_less_ok {G : jG} {l : Launch} {d : Nat} {Q : Option Value → jS → jL → Prop} {x0 : Int32} {x1 : Int32} {I : jS} {L : jL} (h : wX12_less G l d x0 x1 I L Q) : cM G l mX12_less (d + 1) [.int x0, .int x1] I L Q := by
  rw [wX12_less] at h
  show jCall G l yX12_less cX12_less 2 (some .int) (d + 1) 0 0 _ (jKS, I, L, jR0) _
  refine jCall_of (n0 := 0) (ls := [some (.int x0), some (.int x1)]) (by decide +kernel) rfl (Nat.le_of_ble_eq_true rfl) (jQm_of ?_)
  refine jr_iload_n dX12_less_0 rfl rfl ?_
  refine jr_iload_n dX12_less_1 rfl rfl ?_
  refine jr_icmp_le dX12_less_2 (tgt := 11) (by decide) (fun c => ?_) (fun c => ?_)
  · rw [if_pos c] at h
    refine jr_iconst dX12_less_11 kic_0 ?_
    exact jr_ireturn dX12_less_12 ⟨Or.inr (Or.inl ⟨rfl, _, rfl⟩), _, _, rfl, h⟩
  · rw [if_neg c] at h
    refine jr_iload_n dX12_less_5 rfl rfl ?_
    refine jr_iload_n dX12_less_6 rfl rfl ?_
    refine jr_isub dX12_less_7 ?_
    refine jr_goto dX12_less_8 (tgt := 12) (by decide) ?_
    exact jr_ireturn dX12_less_12 ⟨Or.inr (Or.inl ⟨rfl, _, rfl⟩), _, _, rfl, h⟩
def wX12_becomes_97 (G : jG) (l : Launch) (d : Nat) (Q : Option Value → jS → jL → Prop) (x1 : Int32) (x2 : Int32) (x3 : Int32) (I : jS) (L : jL) : Prop := vp_in (I 71 5) 40 ∧ (vp_in x1 125 ∧ (Q (some (.int x3)) (u2 (u2 (u2 (u2 (u2 (u2 I 73 ((I 71 5).toNatClampNeg) x1) 74 ((I 71 5).toNatClampNeg) x3) 75 ((I 71 5).toNatClampNeg) x2) 71 5 ((I 71 5) + (1 : Int32))) 71 4 ((I 71 5) + (1 : Int32))) 72 x1.toNatClampNeg x2) L))
set_option maxRecDepth 100000 in
set_option maxHeartbeats 4000000 in
theorem wX12_becomes_97_ok {G : jG} {l : Launch} {d : Nat} {Q : Option Value → jS → jL → Prop} : ∀ (x1 : Int32) (x2 : Int32) (x3 : Int32) (I : jS) (L : jL), wX12_becomes_97 G l d Q x1 x2 x3 I L → J G l yX12_becomes cX12_becomes 5 (d + 1) 0 0 97 [some (.ref 71), some (.int x1), some (.int x2), some (.int x3), none] [] (jKS, I, L, jR0) (jQm (some .int) Q) := by
  intro x1 x2 x3 I L h
  rw [wX12_becomes_97] at h
  refine jr_aload_n dX12_becomes_97 rfl rfl ?_
  refine jr_geta ff_X12_15 ks_71 rr_71_1 dX12_becomes_98 ?_
  refine jr_aload_n dX12_becomes_101 rfl rfl ?_
  refine jv_geti rfl ff_X12_87 ks_71 dX12_becomes_102 ?_
  refine jr_iload_n dX12_becomes_105 rfl rfl ?_
  obtain ⟨g1, h⟩ := h
  refine jr_iastore rfl ks_73 dX12_becomes_106 g1 ?_
  refine jr_aload_n dX12_becomes_107 rfl rfl ?_
  refine jr_geta ff_X12_18 ks_71 rr_71_2 dX12_becomes_108 ?_
  refine jr_aload_n dX12_becomes_111 rfl rfl ?_
  refine jv_geti (u2n (by decide)) ff_X12_87 ks_71 dX12_becomes_112 ?_
  refine jr_iload_n dX12_becomes_115 rfl rfl ?_
  refine jr_iastore rfl ks_74 dX12_becomes_116 g1 ?_
  refine jr_aload_n dX12_becomes_117 rfl rfl ?_
  refine jr_geta ff_X12_21 ks_71 rr_71_3 dX12_becomes_118 ?_
  refine jr_aload_n dX12_becomes_121 rfl rfl ?_
  refine jv_geti ((u2n (by decide)).trans (u2n (by decide))) ff_X12_87 ks_71 dX12_becomes_122 ?_
  refine jr_iload_n dX12_becomes_125 rfl rfl ?_
  refine jr_iastore rfl ks_75 dX12_becomes_126 g1 ?_
  refine jr_aload_n dX12_becomes_127 rfl rfl ?_
  refine jr_dup dX12_becomes_128 rfl ?_
  refine jv_geti ((u2n (by decide)).trans ((u2n (by decide)).trans (u2n (by decide)))) ff_X12_87 ks_71 dX12_becomes_129 ?_
  refine jr_iconst dX12_becomes_132 kic_1 ?_
  refine jr_iadd dX12_becomes_133 ?_
  refine jr_puti ff_X12_87 ks_71 dX12_becomes_134 ?_
  refine jr_aload_n dX12_becomes_137 rfl rfl ?_
  refine jr_aload_n dX12_becomes_138 rfl rfl ?_
  refine jv_geti u2e ff_X12_87 ks_71 dX12_becomes_139 ?_
  refine jr_puti ff_X12_90 ks_71 dX12_becomes_142 ?_
  refine jr_aload_n dX12_becomes_145 rfl rfl ?_
  refine jr_geta ff_X12_11 ks_71 rr_71_0 dX12_becomes_146 ?_
  refine jr_iload_n dX12_becomes_149 rfl rfl ?_
  refine jr_iload_n dX12_becomes_150 rfl rfl ?_
  obtain ⟨g2, h⟩ := h
  refine jr_iastore rfl ks_72 dX12_becomes_151 g2 ?_
  refine jr_iload_n dX12_becomes_152 rfl rfl ?_
  exact jr_ireturn dX12_becomes_153 ⟨Or.inr (Or.inl ⟨rfl, _, rfl⟩), _, _, rfl, h⟩
def wX12_becomes_26 (G : jG) (l : Launch) (d : Nat) (Q : Option Value → jS → jL → Prop) : Nat → Int32 → Int32 → Int32 → Int32 → jS → jL → Prop
  | 0, _, _, _, _, _, _ => False
  | n26 + 1, x1, x2, x3, x4, I, L => if (40 : Int32) ≤ x4 then (wX12_becomes_97 G l d Q x1 x2 x3 (u2 I 71 5 ((I 71 5) - (1 : Int32))) L) else (vp_in x4 40 ∧ (vp_in (x4 - (1 : Int32)) 40 ∧ ((wX12_becomes_26 G l d Q n26) x1 x2 x3 (x4 + (1 : Int32)) (u2 (u2 (u2 I 73 ((x4 - (1 : Int32)).toNatClampNeg) (I 73 x4.toNatClampNeg)) 74 ((x4 - (1 : Int32)).toNatClampNeg) (I 74 x4.toNatClampNeg)) 75 ((x4 - (1 : Int32)).toNatClampNeg) (I 75 x4.toNatClampNeg)) L)))
set_option maxRecDepth 100000 in
set_option maxHeartbeats 4000000 in
theorem wX12_becomes_26_ok {G : jG} {l : Launch} {d : Nat} {Q : Option Value → jS → jL → Prop} : ∀ (n : Nat) (x1 : Int32) (x2 : Int32) (x3 : Int32) (x4 : Int32) (I : jS) (L : jL), wX12_becomes_26 G l d Q n x1 x2 x3 x4 I L → J G l yX12_becomes cX12_becomes 5 (d + 1) 0 0 26 [some (.ref 71), some (.int x1), some (.int x2), some (.int x3), some (.int x4)] [] (jKS, I, L, jR0) (jQm (some .int) Q) := by
  intro n
  induction n with
  | zero => intro x1 x2 x3 x4 I L h; exact h.elim
  | succ n ih =>
    intro x1 x2 x3 x4 I L h
    rw [wX12_becomes_26] at h
    refine jr_iload dX12_becomes_26 rfl ?_
    refine jr_bipush dX12_becomes_28 kbp_40 ?_
    refine jr_icmp_ge dX12_becomes_30 (tgt := 87) (by decide) (fun c => ?_) (fun c => ?_)
    · rw [if_pos c] at h
      refine jr_aload_n dX12_becomes_87 rfl rfl ?_
      refine jr_dup dX12_becomes_88 rfl ?_
      refine jv_geti rfl ff_X12_87 ks_71 dX12_becomes_89 ?_
      refine jr_iconst dX12_becomes_92 kic_1 ?_
      refine jr_isub dX12_becomes_93 ?_
      refine jr_puti ff_X12_87 ks_71 dX12_becomes_94 ?_
      exact J.sub (wX12_becomes_97_ok  _ _ _ _ _ h) (jsub_some (jsub_some (jsub_some (jsub_some (jsub_none jsub_nil)))))
    · rw [if_neg c] at h
      refine jr_aload_n dX12_becomes_33 rfl rfl ?_
      refine jr_geta ff_X12_15 ks_71 rr_71_1 dX12_becomes_34 ?_
      refine jr_iload dX12_becomes_37 rfl ?_
      refine jr_iconst dX12_becomes_39 kic_1 ?_
      refine jr_isub dX12_becomes_40 ?_
      refine jr_aload_n dX12_becomes_41 rfl rfl ?_
      refine jr_geta ff_X12_15 ks_71 rr_71_1 dX12_becomes_42 ?_
      refine jr_iload dX12_becomes_45 rfl ?_
      obtain ⟨g1, h⟩ := h
      refine jv_iaload rfl rfl ks_73 dX12_becomes_47 g1 ?_
      obtain ⟨g2, h⟩ := h
      refine jr_iastore rfl ks_73 dX12_becomes_48 g2 ?_
      refine jr_aload_n dX12_becomes_49 rfl rfl ?_
      refine jr_geta ff_X12_18 ks_71 rr_71_2 dX12_becomes_50 ?_
      refine jr_iload dX12_becomes_53 rfl ?_
      refine jr_iconst dX12_becomes_55 kic_1 ?_
      refine jr_isub dX12_becomes_56 ?_
      refine jr_aload_n dX12_becomes_57 rfl rfl ?_
      refine jr_geta ff_X12_18 ks_71 rr_71_2 dX12_becomes_58 ?_
      refine jr_iload dX12_becomes_61 rfl ?_
      refine jv_iaload (u2n (by decide)) rfl ks_74 dX12_becomes_63 g1 ?_
      refine jr_iastore rfl ks_74 dX12_becomes_64 g2 ?_
      refine jr_aload_n dX12_becomes_65 rfl rfl ?_
      refine jr_geta ff_X12_21 ks_71 rr_71_3 dX12_becomes_66 ?_
      refine jr_iload dX12_becomes_69 rfl ?_
      refine jr_iconst dX12_becomes_71 kic_1 ?_
      refine jr_isub dX12_becomes_72 ?_
      refine jr_aload_n dX12_becomes_73 rfl rfl ?_
      refine jr_geta ff_X12_21 ks_71 rr_71_3 dX12_becomes_74 ?_
      refine jr_iload dX12_becomes_77 rfl ?_
      refine jv_iaload ((u2n (by decide)).trans (u2n (by decide))) rfl ks_75 dX12_becomes_79 g1 ?_
      refine jr_iastore rfl ks_75 dX12_becomes_80 g2 ?_
      refine jr_iinc dX12_becomes_81 rfl (by rw [kic_1]) (by decide) rfl ?_
      refine jr_goto dX12_becomes_84 (tgt := 26) (by decide) ?_
      exact J.sub (ih _ _ _ _ _ _ h) (jsub_some (jsub_some (jsub_some (jsub_some (jsub_some jsub_nil)))))
def wX12_becomes (G : jG) (l : Launch) (d : Nat) (x1 : Int32) (x2 : Int32) (I : jS) (L : jL) (Q : Option Value → jS → jL → Prop) : Prop := vp_in x1 125 ∧ (if (I 72 x1.toNatClampNeg) = x2 then (Q (some (.int (I 72 x1.toNatClampNeg))) I L) else (if (I 71 5) = (40 : Int32) then (∃ e26 : Nat, wX12_becomes_26 G l d Q e26 x1 x2 (I 72 x1.toNatClampNeg) (1 : Int32) I L) else (wX12_becomes_97 G l d Q x1 x2 (I 72 x1.toNatClampNeg) I L)))
set_option maxRecDepth 100000 in
set_option maxHeartbeats 4000000 in
theorem wX12_becomes_ok {G : jG} {l : Launch} {d : Nat} {Q : Option Value → jS → jL → Prop} {x1 : Int32} {x2 : Int32} {I : jS} {L : jL} (h : wX12_becomes G l d x1 x2 I L Q) : cM G l mX12_becomes (d + 1) [.ref 71, .int x1, .int x2] I L Q := by
  rw [wX12_becomes] at h
  show jCall G l yX12_becomes cX12_becomes 5 (some .int) (d + 1) 0 0 _ (jKS, I, L, jR0) _
  refine jCall_of (n0 := 2) (ls := [some (.ref 71), some (.int x1), some (.int x2), none, none]) (by decide +kernel) rfl (Nat.le_of_ble_eq_true rfl) (jQm_of ?_)
  refine jr_aload_n dX12_becomes_0 rfl rfl ?_
  refine jr_geta ff_X12_11 ks_71 rr_71_0 dX12_becomes_1 ?_
  refine jr_iload_n dX12_becomes_4 rfl rfl ?_
  obtain ⟨g1, h⟩ := h
  refine jv_iaload rfl rfl ks_72 dX12_becomes_5 g1 ?_
  refine jr_istore_n dX12_becomes_6 rfl (by decide) rfl ?_
  refine jr_iload_n dX12_becomes_7 rfl rfl ?_
  refine jr_iload_n dX12_becomes_8 rfl rfl ?_
  refine jr_icmp_ne dX12_becomes_9 (tgt := 14) (by decide) (fun c => ?_) (fun c => ?_)
  · rw [if_neg c] at h
    refine jr_aload_n dX12_becomes_14 rfl rfl ?_
    refine jv_geti rfl ff_X12_87 ks_71 dX12_becomes_15 ?_
    refine jr_bipush dX12_becomes_18 kbp_40 ?_
    refine jr_icmp_ne dX12_becomes_20 (tgt := 97) (by decide) (fun c => ?_) (fun c => ?_)
    · rw [if_neg c] at h
      exact J.sub (wX12_becomes_97_ok  _ _ _ _ _ h) (jsub_some (jsub_some (jsub_some (jsub_some (jsub_none jsub_nil)))))
    · rw [if_pos c] at h
      refine jr_iconst dX12_becomes_23 kic_1 ?_
      refine jr_istore dX12_becomes_24 (by decide) rfl ?_
      obtain ⟨e26, h⟩ := h
      exact J.sub (wX12_becomes_26_ok  e26 _ _ _ _ _ _ h) (jsub_some (jsub_some (jsub_some (jsub_some (jsub_some jsub_nil)))))
  · rw [if_pos c] at h
    refine jr_iload_n dX12_becomes_12 rfl rfl ?_
    exact jr_ireturn dX12_becomes_13 ⟨Or.inr (Or.inl ⟨rfl, _, rfl⟩), _, _, rfl, h⟩
def wX12_undo (G : jG) (l : Launch) (d : Nat) (I : jS) (L : jL) (Q : Option Value → jS → jL → Prop) : Prop := if (I 71 5) = 0 then (Q (some (.int (-5 : Int32))) I L) else (vp_in ((I 71 5) - (1 : Int32)) 40 ∧ (vp_in (I 73 (((I 71 5) - (1 : Int32)).toNatClampNeg)) 125 ∧ (Q (some (.int ((I 71 5) - (1 : Int32)))) (u2 (u2 I 71 5 ((I 71 5) - (1 : Int32))) 72 ((I 73 (((I 71 5) - (1 : Int32)).toNatClampNeg)).toNatClampNeg) (I 74 (((I 71 5) - (1 : Int32)).toNatClampNeg))) L)))
set_option maxRecDepth 100000 in
set_option maxHeartbeats 4000000 in
theorem wX12_undo_ok {G : jG} {l : Launch} {d : Nat} {Q : Option Value → jS → jL → Prop} {I : jS} {L : jL} (h : wX12_undo G l d I L Q) : cM G l mX12_undo (d + 1) [.ref 71] I L Q := by
  rw [wX12_undo] at h
  show jCall G l yX12_undo cX12_undo 1 (some .int) (d + 1) 0 0 _ (jKS, I, L, jR0) _
  refine jCall_of (n0 := 0) (ls := [some (.ref 71)]) (by decide +kernel) rfl (Nat.le_of_ble_eq_true rfl) (jQm_of ?_)
  refine jr_aload_n dX12_undo_0 rfl rfl ?_
  refine jv_geti rfl ff_X12_87 ks_71 dX12_undo_1 ?_
  refine jr_if_ne dX12_undo_4 (tgt := 10) (by decide) (fun c => ?_) (fun c => ?_)
  · rw [if_neg c] at h
    refine jr_aload_n dX12_undo_10 rfl rfl ?_
    refine jr_dup dX12_undo_11 rfl ?_
    refine jv_geti rfl ff_X12_87 ks_71 dX12_undo_12 ?_
    refine jr_iconst dX12_undo_15 kic_1 ?_
    refine jr_isub dX12_undo_16 ?_
    refine jr_puti ff_X12_87 ks_71 dX12_undo_17 ?_
    refine jr_aload_n dX12_undo_20 rfl rfl ?_
    refine jr_geta ff_X12_11 ks_71 rr_71_0 dX12_undo_21 ?_
    refine jr_aload_n dX12_undo_24 rfl rfl ?_
    refine jr_geta ff_X12_15 ks_71 rr_71_1 dX12_undo_25 ?_
    refine jr_aload_n dX12_undo_28 rfl rfl ?_
    refine jv_geti u2e ff_X12_87 ks_71 dX12_undo_29 ?_
    obtain ⟨g1, h⟩ := h
    refine jv_iaload (u2n (by decide)) rfl ks_73 dX12_undo_32 g1 ?_
    refine jr_aload_n dX12_undo_33 rfl rfl ?_
    refine jr_geta ff_X12_18 ks_71 rr_71_2 dX12_undo_34 ?_
    refine jr_aload_n dX12_undo_37 rfl rfl ?_
    refine jv_geti u2e ff_X12_87 ks_71 dX12_undo_38 ?_
    refine jv_iaload (u2n (by decide)) rfl ks_74 dX12_undo_41 g1 ?_
    obtain ⟨g2, h⟩ := h
    refine jr_iastore rfl ks_72 dX12_undo_42 g2 ?_
    refine jr_aload_n dX12_undo_43 rfl rfl ?_
    refine jv_geti ((u2n (by decide)).trans u2e) ff_X12_87 ks_71 dX12_undo_44 ?_
    exact jr_ireturn dX12_undo_47 ⟨Or.inr (Or.inl ⟨rfl, _, rfl⟩), _, _, rfl, h⟩
  · rw [if_pos c] at h
    refine jr_bipush dX12_undo_7 kbp_m5 ?_
    exact jr_ireturn dX12_undo_9 ⟨Or.inr (Or.inl ⟨rfl, _, rfl⟩), _, _, rfl, h⟩
def wX12_redo (G : jG) (l : Launch) (d : Nat) (I : jS) (L : jL) (Q : Option Value → jS → jL → Prop) : Prop := if (I 71 5) = (I 71 4) then (Q (some (.int (-5 : Int32))) I L) else (vp_in (I 71 5) 40 ∧ (vp_in (I 73 ((I 71 5).toNatClampNeg)) 125 ∧ (Q (some (.int ((I 71 4) - ((I 71 5) + (1 : Int32))))) (u2 (u2 I 72 ((I 73 ((I 71 5).toNatClampNeg)).toNatClampNeg) (I 75 ((I 71 5).toNatClampNeg))) 71 5 ((I 71 5) + (1 : Int32))) L)))
set_option maxRecDepth 100000 in
set_option maxHeartbeats 4000000 in
theorem wX12_redo_ok {G : jG} {l : Launch} {d : Nat} {Q : Option Value → jS → jL → Prop} {I : jS} {L : jL} (h : wX12_redo G l d I L Q) : cM G l mX12_redo (d + 1) [.ref 71] I L Q := by
  rw [wX12_redo] at h
  show jCall G l yX12_redo cX12_redo 1 (some .int) (d + 1) 0 0 _ (jKS, I, L, jR0) _
  refine jCall_of (n0 := 0) (ls := [some (.ref 71)]) (by decide +kernel) rfl (Nat.le_of_ble_eq_true rfl) (jQm_of ?_)
  refine jr_aload_n dX12_redo_0 rfl rfl ?_
  refine jv_geti rfl ff_X12_87 ks_71 dX12_redo_1 ?_
  refine jr_aload_n dX12_redo_4 rfl rfl ?_
  refine jv_geti rfl ff_X12_90 ks_71 dX12_redo_5 ?_
  refine jr_icmp_ne dX12_redo_8 (tgt := 14) (by decide) (fun c => ?_) (fun c => ?_)
  · rw [if_neg c] at h
    refine jr_aload_n dX12_redo_14 rfl rfl ?_
    refine jr_geta ff_X12_11 ks_71 rr_71_0 dX12_redo_15 ?_
    refine jr_aload_n dX12_redo_18 rfl rfl ?_
    refine jr_geta ff_X12_15 ks_71 rr_71_1 dX12_redo_19 ?_
    refine jr_aload_n dX12_redo_22 rfl rfl ?_
    refine jv_geti rfl ff_X12_87 ks_71 dX12_redo_23 ?_
    obtain ⟨g1, h⟩ := h
    refine jv_iaload rfl rfl ks_73 dX12_redo_26 g1 ?_
    refine jr_aload_n dX12_redo_27 rfl rfl ?_
    refine jr_geta ff_X12_21 ks_71 rr_71_3 dX12_redo_28 ?_
    refine jr_aload_n dX12_redo_31 rfl rfl ?_
    refine jv_geti rfl ff_X12_87 ks_71 dX12_redo_32 ?_
    refine jv_iaload rfl rfl ks_75 dX12_redo_35 g1 ?_
    obtain ⟨g2, h⟩ := h
    refine jr_iastore rfl ks_72 dX12_redo_36 g2 ?_
    refine jr_aload_n dX12_redo_37 rfl rfl ?_
    refine jr_dup dX12_redo_38 rfl ?_
    refine jv_geti (u2n (by decide)) ff_X12_87 ks_71 dX12_redo_39 ?_
    refine jr_iconst dX12_redo_42 kic_1 ?_
    refine jr_iadd dX12_redo_43 ?_
    refine jr_puti ff_X12_87 ks_71 dX12_redo_44 ?_
    refine jr_aload_n dX12_redo_47 rfl rfl ?_
    refine jv_geti ((u2i (by decide)).trans (u2n (by decide))) ff_X12_90 ks_71 dX12_redo_48 ?_
    refine jr_aload_n dX12_redo_51 rfl rfl ?_
    refine jv_geti u2e ff_X12_87 ks_71 dX12_redo_52 ?_
    refine jr_isub dX12_redo_55 ?_
    exact jr_ireturn dX12_redo_56 ⟨Or.inr (Or.inl ⟨rfl, _, rfl⟩), _, _, rfl, h⟩
  · rw [if_pos c] at h
    refine jr_bipush dX12_redo_11 kbp_m5 ?_
    exact jr_ireturn dX12_redo_13 ⟨Or.inr (Or.inl ⟨rfl, _, rfl⟩), _, _, rfl, h⟩
def wX12_isGoer (G : jG) (l : Launch) (d : Nat) (y1 : Int64) (I : jS) (L : jL) (Q : Option Value → jS → jL → Prop) : Prop := cI G l mX12_within d [.long y1, .long (0 : Int64), .long (((I 71 6) - (1 : Int32)).toInt64)] I L (fun r1 I1 L1 => ((r1 = 0 ∨ r1 = 1) ∧ Q (some (.int r1)) I1 L1))
set_option maxRecDepth 100000 in
set_option maxHeartbeats 4000000 in
theorem wX12_isGoer_ok {G : jG} {l : Launch} {d : Nat} {Q : Option Value → jS → jL → Prop} {y1 : Int64} {I : jS} {L : jL} (h : wX12_isGoer G l d y1 I L Q) : cM G l mX12_isGoer (d + 1) [.ref 71, .long y1] I L Q := by
  rw [wX12_isGoer] at h
  show jCall G l yX12_isGoer cX12_isGoer 3 (some .boolean) (d + 1) 0 0 _ (jKS, I, L, jR0) _
  refine jCall_of (n0 := 0) (ls := [some (.ref 71), some (.long y1), none]) (by decide +kernel) rfl (Nat.le_of_ble_eq_true rfl) (jQm_of ?_)
  refine jr_lload_n dX12_isGoer_0 rfl rfl ?_
  refine jr_lconst dX12_isGoer_1 klc_0 ?_
  refine jr_aload_n dX12_isGoer_2 rfl rfl ?_
  refine jv_geti rfl ff_X12_93 ks_71 dX12_isGoer_3 ?_
  refine jr_iconst dX12_isGoer_6 kic_1 ?_
  refine jr_isub dX12_isGoer_7 ?_
  refine jr_i2l dX12_isGoer_8 ?_
  refine jr_callS (mc2 := 0) (mc := 0) (ms2 := 0) (ms := 0) vm_X12_96 (av := [.long y1, .long (0 : Int64), .long (((I 71 6) - (1 : Int32)).toInt64)]) (st := []) rfl rfl (Nat.le_of_ble_eq_true rfl) dX12_isGoer_9 (cI_use (M := (yX12_within, cX12_within, 6, some .boolean)) h ?_)
  intro r1 I1 L1 h
  obtain ⟨gz, h⟩ := h
  exact jr_ireturn dX12_isGoer_12 ⟨Or.inr (Or.inr (Or.inr ⟨rfl, gz.imp (fun e => by rw [e]) (fun e => by rw [e])⟩)), _, _, rfl, h⟩
def wX12_isWay (G : jG) (l : Launch) (d : Nat) (y0 : Int64) (I : jS) (L : jL) (Q : Option Value → jS → jL → Prop) : Prop := cI G l mX12_within d [.long y0, .long (0 : Int64), .long (2 : Int64)] I L (fun r1 I1 L1 => ((r1 = 0 ∨ r1 = 1) ∧ Q (some (.int r1)) I1 L1))
set_option maxRecDepth 100000 in
set_option maxHeartbeats 4000000 in
theorem wX12_isWay_ok {G : jG} {l : Launch} {d : Nat} {Q : Option Value → jS → jL → Prop} {y0 : Int64} {I : jS} {L : jL} (h : wX12_isWay G l d y0 I L Q) : cM G l mX12_isWay (d + 1) [.long y0] I L Q := by
  rw [wX12_isWay] at h
  show jCall G l yX12_isWay cX12_isWay 2 (some .boolean) (d + 1) 0 0 _ (jKS, I, L, jR0) _
  refine jCall_of (n0 := 0) (ls := [some (.long y0), none]) (by decide +kernel) rfl (Nat.le_of_ble_eq_true rfl) (jQm_of ?_)
  refine jr_lload_n dX12_isWay_0 rfl rfl ?_
  refine jr_lconst dX12_isWay_1 klc_0 ?_
  refine jr_ldc2 kl_X12_100 dX12_isWay_2 ?_
  refine jr_callS (mc2 := 0) (mc := 0) (ms2 := 0) (ms := 0) vm_X12_96 (av := [.long y0, .long (0 : Int64), .long (2 : Int64)]) (st := []) rfl rfl (Nat.le_of_ble_eq_true rfl) dX12_isWay_5 (cI_use (M := (yX12_within, cX12_within, 6, some .boolean)) h ?_)
  intro r1 I1 L1 h
  obtain ⟨gz, h⟩ := h
  exact jr_ireturn dX12_isWay_8 ⟨Or.inr (Or.inr (Or.inr ⟨rfl, gz.imp (fun e => by rw [e]) (fun e => by rw [e])⟩)), _, _, rfl, h⟩
def wX12_isSquare (G : jG) (l : Launch) (d : Nat) (x0 : Int32) (I : jS) (L : jL) (Q : Option Value → jS → jL → Prop) : Prop := cI G l mX12_within d [.long (x0.toInt64), .long (0 : Int64), .long (23 : Int64)] I L (fun r1 I1 L1 => ((r1 = 0 ∨ r1 = 1) ∧ Q (some (.int r1)) I1 L1))
set_option maxRecDepth 100000 in
set_option maxHeartbeats 4000000 in
theorem wX12_isSquare_ok {G : jG} {l : Launch} {d : Nat} {Q : Option Value → jS → jL → Prop} {x0 : Int32} {I : jS} {L : jL} (h : wX12_isSquare G l d x0 I L Q) : cM G l mX12_isSquare (d + 1) [.int x0] I L Q := by
  rw [wX12_isSquare] at h
  show jCall G l yX12_isSquare cX12_isSquare 1 (some .boolean) (d + 1) 0 0 _ (jKS, I, L, jR0) _
  refine jCall_of (n0 := 0) (ls := [some (.int x0)]) (by decide +kernel) rfl (Nat.le_of_ble_eq_true rfl) (jQm_of ?_)
  refine jr_iload_n dX12_isSquare_0 rfl rfl ?_
  refine jr_i2l dX12_isSquare_1 ?_
  refine jr_lconst dX12_isSquare_2 klc_0 ?_
  refine jr_ldc2 kl_X12_102 dX12_isSquare_3 ?_
  refine jr_callS (mc2 := 0) (mc := 0) (ms2 := 0) (ms := 0) vm_X12_96 (av := [.long (x0.toInt64), .long (0 : Int64), .long (23 : Int64)]) (st := []) rfl rfl (Nat.le_of_ble_eq_true rfl) dX12_isSquare_6 (cI_use (M := (yX12_within, cX12_within, 6, some .boolean)) h ?_)
  intro r1 I1 L1 h
  obtain ⟨gz, h⟩ := h
  exact jr_ireturn dX12_isSquare_9 ⟨Or.inr (Or.inr (Or.inr ⟨rfl, gz.imp (fun e => by rw [e]) (fun e => by rw [e])⟩)), _, _, rfl, h⟩
def wX12_ofGoer (G : jG) (l : Launch) (d : Nat) (x1 : Int32) (x2 : Int32) (I : jS) (L : jL) (Q : Option Value → jS → jL → Prop) : Prop := vp_in (((96 : Int32) + ((7 : Int32) * x2)) + x1) 125 ∧ (Q (some (.int (I 72 ((((96 : Int32) + ((7 : Int32) * x2)) + x1).toNatClampNeg)))) I L)
set_option maxRecDepth 100000 in
set_option maxHeartbeats 4000000 in
theorem wX12_ofGoer_ok {G : jG} {l : Launch} {d : Nat} {Q : Option Value → jS → jL → Prop} {x1 : Int32} {x2 : Int32} {I : jS} {L : jL} (h : wX12_ofGoer G l d x1 x2 I L Q) : cM G l mX12_ofGoer (d + 1) [.ref 71, .int x1, .int x2] I L Q := by
  rw [wX12_ofGoer] at h
  show jCall G l yX12_ofGoer cX12_ofGoer 3 (some .int) (d + 1) 0 0 _ (jKS, I, L, jR0) _
  refine jCall_of (n0 := 0) (ls := [some (.ref 71), some (.int x1), some (.int x2)]) (by decide +kernel) rfl (Nat.le_of_ble_eq_true rfl) (jQm_of ?_)
  refine jr_aload_n dX12_ofGoer_0 rfl rfl ?_
  refine jr_geta ff_X12_11 ks_71 rr_71_0 dX12_ofGoer_1 ?_
  refine jr_bipush dX12_ofGoer_4 kbp_96 ?_
  refine jr_bipush dX12_ofGoer_6 kbp_7 ?_
  refine jr_iload_n dX12_ofGoer_8 rfl rfl ?_
  refine jr_imul dX12_ofGoer_9 ?_
  refine jr_iadd dX12_ofGoer_10 ?_
  refine jr_iload_n dX12_ofGoer_11 rfl rfl ?_
  refine jr_iadd dX12_ofGoer_12 ?_
  obtain ⟨g1, h⟩ := h
  refine jv_iaload rfl rfl ks_72 dX12_ofGoer_13 g1 ?_
  exact jr_ireturn dX12_ofGoer_14 ⟨Or.inr (Or.inl ⟨rfl, _, rfl⟩), _, _, rfl, h⟩
def wX12_adds (G : jG) (l : Launch) (d : Nat) (x1 : Int32) (x2 : Int32) (x3 : Int32) (I : jS) (L : jL) (Q : Option Value → jS → jL → Prop) : Prop := vp_in ((96 : Int32) + (I 71 6)) 125 ∧ (vp_in ((103 : Int32) + (I 71 6)) 125 ∧ (vp_in ((110 : Int32) + (I 71 6)) 125 ∧ (vp_in ((117 : Int32) + (I 71 6)) 125 ∧ (Q none (u2 (u2 (u2 (u2 (u2 I 72 (((96 : Int32) + (I 71 6)).toNatClampNeg) x1) 72 (((103 : Int32) + (I 71 6)).toNatClampNeg) (0 : Int32)) 72 (((110 : Int32) + (I 71 6)).toNatClampNeg) x2) 72 (((117 : Int32) + (I 71 6)).toNatClampNeg) x3) 71 6 ((I 71 6) + (1 : Int32))) L))))
set_option maxRecDepth 100000 in
set_option maxHeartbeats 4000000 in
theorem wX12_adds_ok {G : jG} {l : Launch} {d : Nat} {Q : Option Value → jS → jL → Prop} {x1 : Int32} {x2 : Int32} {x3 : Int32} {I : jS} {L : jL} (h : wX12_adds G l d x1 x2 x3 I L Q) : cM G l mX12_adds (d + 1) [.ref 71, .int x1, .int x2, .int x3] I L Q := by
  rw [wX12_adds] at h
  show jCall G l yX12_adds cX12_adds 4 (none) (d + 1) 0 0 _ (jKS, I, L, jR0) _
  refine jCall_of (n0 := 0) (ls := [some (.ref 71), some (.int x1), some (.int x2), some (.int x3)]) (by decide +kernel) rfl (Nat.le_of_ble_eq_true rfl) (jQm_of ?_)
  refine jr_aload_n dX12_adds_0 rfl rfl ?_
  refine jr_geta ff_X12_11 ks_71 rr_71_0 dX12_adds_1 ?_
  refine jr_bipush dX12_adds_4 kbp_96 ?_
  refine jr_aload_n dX12_adds_6 rfl rfl ?_
  refine jv_geti rfl ff_X12_93 ks_71 dX12_adds_7 ?_
  refine jr_iadd dX12_adds_10 ?_
  refine jr_iload_n dX12_adds_11 rfl rfl ?_
  obtain ⟨g1, h⟩ := h
  refine jr_iastore rfl ks_72 dX12_adds_12 g1 ?_
  refine jr_aload_n dX12_adds_13 rfl rfl ?_
  refine jr_geta ff_X12_11 ks_71 rr_71_0 dX12_adds_14 ?_
  refine jr_bipush dX12_adds_17 kbp_103 ?_
  refine jr_aload_n dX12_adds_19 rfl rfl ?_
  refine jv_geti (u2n (by decide)) ff_X12_93 ks_71 dX12_adds_20 ?_
  refine jr_iadd dX12_adds_23 ?_
  refine jr_iconst dX12_adds_24 kic_0 ?_
  obtain ⟨g2, h⟩ := h
  refine jr_iastore rfl ks_72 dX12_adds_25 g2 ?_
  refine jr_aload_n dX12_adds_26 rfl rfl ?_
  refine jr_geta ff_X12_11 ks_71 rr_71_0 dX12_adds_27 ?_
  refine jr_bipush dX12_adds_30 kbp_110 ?_
  refine jr_aload_n dX12_adds_32 rfl rfl ?_
  refine jv_geti ((u2n (by decide)).trans (u2n (by decide))) ff_X12_93 ks_71 dX12_adds_33 ?_
  refine jr_iadd dX12_adds_36 ?_
  refine jr_iload_n dX12_adds_37 rfl rfl ?_
  obtain ⟨g3, h⟩ := h
  refine jr_iastore rfl ks_72 dX12_adds_38 g3 ?_
  refine jr_aload_n dX12_adds_39 rfl rfl ?_
  refine jr_geta ff_X12_11 ks_71 rr_71_0 dX12_adds_40 ?_
  refine jr_bipush dX12_adds_43 kbp_117 ?_
  refine jr_aload_n dX12_adds_45 rfl rfl ?_
  refine jv_geti ((u2n (by decide)).trans ((u2n (by decide)).trans (u2n (by decide)))) ff_X12_93 ks_71 dX12_adds_46 ?_
  refine jr_iadd dX12_adds_49 ?_
  refine jr_iload_n dX12_adds_50 rfl rfl ?_
  obtain ⟨g4, h⟩ := h
  refine jr_iastore rfl ks_72 dX12_adds_51 g4 ?_
  refine jr_aload_n dX12_adds_52 rfl rfl ?_
  refine jr_dup dX12_adds_53 rfl ?_
  refine jv_geti ((u2n (by decide)).trans ((u2n (by decide)).trans ((u2n (by decide)).trans (u2n (by decide))))) ff_X12_93 ks_71 dX12_adds_54 ?_
  refine jr_iconst dX12_adds_57 kic_1 ?_
  refine jr_iadd dX12_adds_58 ?_
  refine jr_puti ff_X12_93 ks_71 dX12_adds_59 ?_
  exact jr_return dX12_adds_62 ⟨Or.inl ⟨rfl, rfl⟩, _, _, rfl, h⟩
def wX12_goer (G : jG) (l : Launch) (d : Nat) (x1 : Int32) (x2 : Int32) (I : jS) (L : jL) (Q : Option Value → jS → jL → Prop) : Prop := cI G l mX12_within d [.long (x1.toInt64), .long (1 : Int64), .long (60 : Int64)] I L (fun r1 I1 L1 => (if r1 = 0 then (Q (some (.int (-1 : Int32))) I1 L1) else (cI G l mX12_within d [.long (x2.toInt64), .long (0 : Int64), .long (60 : Int64)] I1 L1 (fun r2 I2 L2 => (if r2 = 0 then (Q (some (.int (-1 : Int32))) I2 L2) else (if (I2 71 6) = (7 : Int32) then (Q (some (.int (-3 : Int32))) I2 L2) else (cV G l mX12_adds d [.ref 71, .int x1, .int x2, .int (2 : Int32)] I2 L2 (fun I3 L3 => (Q (some (.int ((I3 71 6) - (1 : Int32)))) I3 L3)))))))))
set_option maxRecDepth 100000 in
set_option maxHeartbeats 4000000 in
theorem wX12_goer_ok {G : jG} {l : Launch} {d : Nat} {Q : Option Value → jS → jL → Prop} {x1 : Int32} {x2 : Int32} {I : jS} {L : jL} (h : wX12_goer G l d x1 x2 I L Q) : cM G l mX12_goer (d + 1) [.ref 71, .int x1, .int x2] I L Q := by
  rw [wX12_goer] at h
  show jCall G l yX12_goer cX12_goer 3 (some .int) (d + 1) 0 0 _ (jKS, I, L, jR0) _
  refine jCall_of (n0 := 0) (ls := [some (.ref 71), some (.int x1), some (.int x2)]) (by decide +kernel) rfl (Nat.le_of_ble_eq_true rfl) (jQm_of ?_)
  refine jr_iload_n dX12_goer_0 rfl rfl ?_
  refine jr_i2l dX12_goer_1 ?_
  refine jr_lconst dX12_goer_2 klc_1 ?_
  refine jr_ldc2 kl_X12_104 dX12_goer_3 ?_
  refine jr_callS (mc2 := 0) (mc := 0) (ms2 := 0) (ms := 0) vm_X12_96 (av := [.long (x1.toInt64), .long (1 : Int64), .long (60 : Int64)]) (st := []) rfl rfl (Nat.le_of_ble_eq_true rfl) dX12_goer_6 (cI_use (M := (yX12_within, cX12_within, 6, some .boolean)) h ?_)
  intro r1 I1 L1 h
  refine jr_if_eq dX12_goer_9 (tgt := 24) (by decide) (fun c => ?_) (fun c => ?_)
  · rw [if_pos c] at h
    refine jr_iconst dX12_goer_24 kic_m1 ?_
    exact jr_ireturn dX12_goer_25 ⟨Or.inr (Or.inl ⟨rfl, _, rfl⟩), _, _, rfl, h⟩
  · rw [if_neg c] at h
    refine jr_iload_n dX12_goer_12 rfl rfl ?_
    refine jr_i2l dX12_goer_13 ?_
    refine jr_lconst dX12_goer_14 klc_0 ?_
    refine jr_ldc2 kl_X12_104 dX12_goer_15 ?_
    refine jr_callS (mc2 := 0) (mc := 0) (ms2 := 0) (ms := 0) vm_X12_96 (av := [.long (x2.toInt64), .long (0 : Int64), .long (60 : Int64)]) (st := []) rfl rfl (Nat.le_of_ble_eq_true rfl) dX12_goer_18 (cI_use (M := (yX12_within, cX12_within, 6, some .boolean)) h ?_)
    intro r2 I2 L2 h
    refine jr_if_ne dX12_goer_21 (tgt := 26) (by decide) (fun c => ?_) (fun c => ?_)
    · rw [if_neg c] at h
      refine jr_aload_n dX12_goer_26 rfl rfl ?_
      refine jv_geti rfl ff_X12_93 ks_71 dX12_goer_27 ?_
      refine jr_bipush dX12_goer_30 kbp_7 ?_
      refine jr_icmp_ne dX12_goer_32 (tgt := 38) (by decide) (fun c => ?_) (fun c => ?_)
      · rw [if_neg c] at h
        refine jr_aload_n dX12_goer_38 rfl rfl ?_
        refine jr_iload_n dX12_goer_39 rfl rfl ?_
        refine jr_iload_n dX12_goer_40 rfl rfl ?_
        refine jr_iconst dX12_goer_41 kic_2 ?_
        refine jr_callV (mc2 := 0) (mc := 0) (ms2 := 0) (ms := 0) vm_X12_106 (av := [.int x1, .int x2, .int (2 : Int32)]) (st := []) rfl rfl ks_71 (by decide) rfl (Nat.le_of_ble_eq_true rfl) dX12_goer_42 (cV_use (M := (yX12_adds, cX12_adds, 4, none)) h ?_)
        intro I3 L3 h
        refine jr_aload_n dX12_goer_45 rfl rfl ?_
        refine jv_geti rfl ff_X12_93 ks_71 dX12_goer_46 ?_
        refine jr_iconst dX12_goer_49 kic_1 ?_
        refine jr_isub dX12_goer_50 ?_
        exact jr_ireturn dX12_goer_51 ⟨Or.inr (Or.inl ⟨rfl, _, rfl⟩), _, _, rfl, h⟩
      · rw [if_pos c] at h
        refine jr_bipush dX12_goer_35 kbp_m3 ?_
        exact jr_ireturn dX12_goer_37 ⟨Or.inr (Or.inl ⟨rfl, _, rfl⟩), _, _, rfl, h⟩
    · rw [if_pos c] at h
      refine jr_iconst dX12_goer_24 kic_m1 ?_
      exact jr_ireturn dX12_goer_25 ⟨Or.inr (Or.inl ⟨rfl, _, rfl⟩), _, _, rfl, h⟩
def wX12_goers_191 (G : jG) (l : Launch) (d : Nat) (k69 : Int32 → Int32 → Int32 → Int32 → Int32 → jS → jL → Prop) (Q : Option Value → jS → jL → Prop) (x1 : Int32) (x2 : Int32) (x3 : Int32) (x4 : Int32) (x6 : Int32) (t0 : Int32) (I : jS) (L : jL) : Prop := if t0 = 0 then (k69 x1 x2 x3 x4 t0 I L) else (vp_in x6 360 ∧ (vp_in (x6 + (1 : Int32)) 360 ∧ (vp_in (x6 + (2 : Int32)) 360 ∧ (cV G l mX12_adds d [.ref 71, .int ((L 91 x6.toNatClampNeg).toInt32), .int ((L 91 ((x6 + (1 : Int32)).toNatClampNeg)).toInt32), .int ((L 91 ((x6 + (2 : Int32)).toNatClampNeg)).toInt32)] I L (fun I4 L4 => (k69 x1 x2 x3 (x4 + (1 : Int32)) t0 I4 L4))))))
set_option maxRecDepth 100000 in
set_option maxHeartbeats 4000000 in
theorem wX12_goers_191_ok {G : jG} {l : Launch} {d : Nat} {Q : Option Value → jS → jL → Prop} {k69 : Int32 → Int32 → Int32 → Int32 → Int32 → jS → jL → Prop} (hk69 : ∀ (x1 : Int32) (x2 : Int32) (x3 : Int32) (x4 : Int32) (x5 : Int32) (I : jS) (L : jL), k69 x1 x2 x3 x4 x5 I L → J G l yX12_goers cX12_goers 7 (d + 1) 0 0 69 [some (.ref 71), some (.int x1), some (.int x2), some (.int x3), some (.int x4), some (.int x5), none] [] (jKS, I, L, jR0) (jQm (some .int) Q)) : ∀ (x1 : Int32) (x2 : Int32) (x3 : Int32) (x4 : Int32) (x6 : Int32) (t0 : Int32) (I : jS) (L : jL), wX12_goers_191 G l d k69 Q x1 x2 x3 x4 x6 t0 I L → J G l yX12_goers cX12_goers 7 (d + 1) 0 0 191 [some (.ref 71), some (.int x1), some (.int x2), some (.int x3), some (.int x4), none, some (.int x6)] [.int t0] (jKS, I, L, jR0) (jQm (some .int) Q) := by
  intro x1 x2 x3 x4 x6 t0 I L h
  rw [wX12_goers_191] at h
  refine jr_istore dX12_goers_191 (by decide) rfl ?_
  refine jr_iload dX12_goers_193 rfl ?_
  refine jr_if_eq dX12_goers_195 (tgt := 233) (by decide) (fun c => ?_) (fun c => ?_)
  · rw [if_pos c] at h
    refine jr_goto dX12_goers_233 (tgt := 69) (by decide) ?_
    exact J.sub (hk69 _ _ _ _ _ _ _ h) (jsub_some (jsub_some (jsub_some (jsub_some (jsub_some (jsub_some (jsub_none jsub_nil)))))))
  · rw [if_neg c] at h
    refine jr_aload_n dX12_goers_198 rfl rfl ?_
    refine jr_aload_n dX12_goers_199 rfl rfl ?_
    refine jr_geta ff_X12_74 ks_71 rr_71_51 dX12_goers_200 ?_
    refine jr_iload dX12_goers_203 rfl ?_
    obtain ⟨g1, h⟩ := h
    refine jv_laload rfl rfl ks_91 dX12_goers_205 g1 ?_
    refine jr_l2i dX12_goers_206 ?_
    refine jr_aload_n dX12_goers_207 rfl rfl ?_
    refine jr_geta ff_X12_74 ks_71 rr_71_51 dX12_goers_208 ?_
    refine jr_iload dX12_goers_211 rfl ?_
    refine jr_iconst dX12_goers_213 kic_1 ?_
    refine jr_iadd dX12_goers_214 ?_
    obtain ⟨g2, h⟩ := h
    refine jv_laload rfl rfl ks_91 dX12_goers_215 g2 ?_
    refine jr_l2i dX12_goers_216 ?_
    refine jr_aload_n dX12_goers_217 rfl rfl ?_
    refine jr_geta ff_X12_74 ks_71 rr_71_51 dX12_goers_218 ?_
    refine jr_iload dX12_goers_221 rfl ?_
    refine jr_iconst dX12_goers_223 kic_2 ?_
    refine jr_iadd dX12_goers_224 ?_
    obtain ⟨g3, h⟩ := h
    refine jv_laload rfl rfl ks_91 dX12_goers_225 g3 ?_
    refine jr_l2i dX12_goers_226 ?_
    refine jr_callV (mc2 := 0) (mc := 0) (ms2 := 0) (ms := 0) vm_X12_106 (av := [.int ((L 91 x6.toNatClampNeg).toInt32), .int ((L 91 ((x6 + (1 : Int32)).toNatClampNeg)).toInt32), .int ((L 91 ((x6 + (2 : Int32)).toNatClampNeg)).toInt32)]) (st := []) rfl rfl ks_71 (by decide) rfl (Nat.le_of_ble_eq_true rfl) dX12_goers_227 (cV_use (M := (yX12_adds, cX12_adds, 4, none)) h ?_)
    intro I4 L4 h
    refine jr_iinc dX12_goers_230 rfl (by rw [kic_1]) (by decide) rfl ?_
    refine jr_goto dX12_goers_233 (tgt := 69) (by decide) ?_
    exact J.sub (hk69 _ _ _ _ _ _ _ h) (jsub_some (jsub_some (jsub_some (jsub_some (jsub_some (jsub_some (jsub_none jsub_nil)))))))
def wX12_goers_190 (G : jG) (l : Launch) (d : Nat) (k69 : Int32 → Int32 → Int32 → Int32 → Int32 → jS → jL → Prop) (Q : Option Value → jS → jL → Prop) (x1 : Int32) (x2 : Int32) (x3 : Int32) (x4 : Int32) (x6 : Int32) (I : jS) (L : jL) : Prop := wX12_goers_191 G l d k69 Q x1 x2 x3 x4 x6 (0 : Int32) I L
set_option maxRecDepth 100000 in
set_option maxHeartbeats 4000000 in
theorem wX12_goers_190_ok {G : jG} {l : Launch} {d : Nat} {Q : Option Value → jS → jL → Prop} {k69 : Int32 → Int32 → Int32 → Int32 → Int32 → jS → jL → Prop} (hk69 : ∀ (x1 : Int32) (x2 : Int32) (x3 : Int32) (x4 : Int32) (x5 : Int32) (I : jS) (L : jL), k69 x1 x2 x3 x4 x5 I L → J G l yX12_goers cX12_goers 7 (d + 1) 0 0 69 [some (.ref 71), some (.int x1), some (.int x2), some (.int x3), some (.int x4), some (.int x5), none] [] (jKS, I, L, jR0) (jQm (some .int) Q)) : ∀ (x1 : Int32) (x2 : Int32) (x3 : Int32) (x4 : Int32) (x6 : Int32) (I : jS) (L : jL), wX12_goers_190 G l d k69 Q x1 x2 x3 x4 x6 I L → J G l yX12_goers cX12_goers 7 (d + 1) 0 0 190 [some (.ref 71), some (.int x1), some (.int x2), some (.int x3), some (.int x4), none, some (.int x6)] [] (jKS, I, L, jR0) (jQm (some .int) Q) := by
  intro x1 x2 x3 x4 x6 I L h
  rw [wX12_goers_190] at h
  refine jr_iconst dX12_goers_190 kic_0 ?_
  exact J.sub (wX12_goers_191_ok  hk69 _ _ _ _ _ _ _ _ h) (jsub_some (jsub_some (jsub_some (jsub_some (jsub_some (jsub_none (jsub_some jsub_nil)))))))
def wX12_goers_111 (G : jG) (l : Launch) (d : Nat) (k69 : Int32 → Int32 → Int32 → Int32 → Int32 → jS → jL → Prop) (Q : Option Value → jS → jL → Prop) (x1 : Int32) (x2 : Int32) (x3 : Int32) (x4 : Int32) (t0 : Int32) (I : jS) (L : jL) : Prop := if t0 = 0 then (wX12_goers_190 G l d k69 Q x1 x2 x3 x4 ((((60 : Int32) * x1) + x2) + ((3 : Int32) * x4)) I L) else (vp_in ((((60 : Int32) * x1) + x2) + ((3 : Int32) * x4)) 360 ∧ (cI G l mX12_within d [.long (L 91 (((((60 : Int32) * x1) + x2) + ((3 : Int32) * x4)).toNatClampNeg)), .long (1 : Int64), .long (60 : Int64)] I L (fun r2 I2 L2 => (if r2 = 0 then (wX12_goers_190 G l d k69 Q x1 x2 x3 x4 ((((60 : Int32) * x1) + x2) + ((3 : Int32) * x4)) I2 L2) else (vp_in (((((60 : Int32) * x1) + x2) + ((3 : Int32) * x4)) + (1 : Int32)) 360 ∧ (cI G l mX12_within d [.long (L2 91 ((((((60 : Int32) * x1) + x2) + ((3 : Int32) * x4)) + (1 : Int32)).toNatClampNeg)), .long (0 : Int64), .long (60 : Int64)] I2 L2 (fun r4 I4 L4 => (if r4 = 0 then (wX12_goers_190 G l d k69 Q x1 x2 x3 x4 ((((60 : Int32) * x1) + x2) + ((3 : Int32) * x4)) I4 L4) else (vp_in (((((60 : Int32) * x1) + x2) + ((3 : Int32) * x4)) + (2 : Int32)) 360 ∧ (cI G l mX12_within d [.long (L4 91 ((((((60 : Int32) * x1) + x2) + ((3 : Int32) * x4)) + (2 : Int32)).toNatClampNeg)), .long (1 : Int64), .long (9 : Int64)] I4 L4 (fun r6 I6 L6 => (if r6 = 0 then (wX12_goers_190 G l d k69 Q x1 x2 x3 x4 ((((60 : Int32) * x1) + x2) + ((3 : Int32) * x4)) I6 L6) else (wX12_goers_191 G l d k69 Q x1 x2 x3 x4 ((((60 : Int32) * x1) + x2) + ((3 : Int32) * x4)) (1 : Int32) I6 L6)))))))))))))
set_option maxRecDepth 100000 in
set_option maxHeartbeats 4000000 in
theorem wX12_goers_111_ok {G : jG} {l : Launch} {d : Nat} {Q : Option Value → jS → jL → Prop} {k69 : Int32 → Int32 → Int32 → Int32 → Int32 → jS → jL → Prop} (hk69 : ∀ (x1 : Int32) (x2 : Int32) (x3 : Int32) (x4 : Int32) (x5 : Int32) (I : jS) (L : jL), k69 x1 x2 x3 x4 x5 I L → J G l yX12_goers cX12_goers 7 (d + 1) 0 0 69 [some (.ref 71), some (.int x1), some (.int x2), some (.int x3), some (.int x4), some (.int x5), none] [] (jKS, I, L, jR0) (jQm (some .int) Q)) : ∀ (x1 : Int32) (x2 : Int32) (x3 : Int32) (x4 : Int32) (t0 : Int32) (I : jS) (L : jL), wX12_goers_111 G l d k69 Q x1 x2 x3 x4 t0 I L → J G l yX12_goers cX12_goers 7 (d + 1) 0 0 111 [some (.ref 71), some (.int x1), some (.int x2), some (.int x3), some (.int x4), none, none] [.int t0] (jKS, I, L, jR0) (jQm (some .int) Q) := by
  intro x1 x2 x3 x4 t0 I L h
  rw [wX12_goers_111] at h
  refine jr_istore dX12_goers_111 (by decide) rfl ?_
  refine jr_bipush dX12_goers_113 kbp_60 ?_
  refine jr_iload_n dX12_goers_115 rfl rfl ?_
  refine jr_imul dX12_goers_116 ?_
  refine jr_iload_n dX12_goers_117 rfl rfl ?_
  refine jr_iadd dX12_goers_118 ?_
  refine jr_iconst dX12_goers_119 kic_3 ?_
  refine jr_iload dX12_goers_120 rfl ?_
  refine jr_imul dX12_goers_122 ?_
  refine jr_iadd dX12_goers_123 ?_
  refine jr_istore dX12_goers_124 (by decide) rfl ?_
  refine jr_iload dX12_goers_126 rfl ?_
  refine jr_if_eq dX12_goers_128 (tgt := 190) (by decide) (fun c => ?_) (fun c => ?_)
  · rw [if_pos c] at h
    exact J.sub (wX12_goers_190_ok  hk69 _ _ _ _ _ _ _ h) (jsub_some (jsub_some (jsub_some (jsub_some (jsub_some (jsub_none (jsub_some jsub_nil)))))))
  · rw [if_neg c] at h
    refine jr_aload_n dX12_goers_131 rfl rfl ?_
    refine jr_geta ff_X12_74 ks_71 rr_71_51 dX12_goers_132 ?_
    refine jr_iload dX12_goers_135 rfl ?_
    obtain ⟨g1, h⟩ := h
    refine jv_laload rfl rfl ks_91 dX12_goers_137 g1 ?_
    refine jr_lconst dX12_goers_138 klc_1 ?_
    refine jr_ldc2 kl_X12_104 dX12_goers_139 ?_
    refine jr_callS (mc2 := 0) (mc := 0) (ms2 := 0) (ms := 0) vm_X12_96 (av := [.long (L 91 (((((60 : Int32) * x1) + x2) + ((3 : Int32) * x4)).toNatClampNeg)), .long (1 : Int64), .long (60 : Int64)]) (st := []) rfl rfl (Nat.le_of_ble_eq_true rfl) dX12_goers_142 (cI_use (M := (yX12_within, cX12_within, 6, some .boolean)) h ?_)
    intro r2 I2 L2 h
    refine jr_if_eq dX12_goers_145 (tgt := 190) (by decide) (fun c => ?_) (fun c => ?_)
    · rw [if_pos c] at h
      exact J.sub (wX12_goers_190_ok  hk69 _ _ _ _ _ _ _ h) (jsub_some (jsub_some (jsub_some (jsub_some (jsub_some (jsub_none (jsub_some jsub_nil)))))))
    · rw [if_neg c] at h
      refine jr_aload_n dX12_goers_148 rfl rfl ?_
      refine jr_geta ff_X12_74 ks_71 rr_71_51 dX12_goers_149 ?_
      refine jr_iload dX12_goers_152 rfl ?_
      refine jr_iconst dX12_goers_154 kic_1 ?_
      refine jr_iadd dX12_goers_155 ?_
      obtain ⟨g3, h⟩ := h
      refine jv_laload rfl rfl ks_91 dX12_goers_156 g3 ?_
      refine jr_lconst dX12_goers_157 klc_0 ?_
      refine jr_ldc2 kl_X12_104 dX12_goers_158 ?_
      refine jr_callS (mc2 := 0) (mc := 0) (ms2 := 0) (ms := 0) vm_X12_96 (av := [.long (L2 91 ((((((60 : Int32) * x1) + x2) + ((3 : Int32) * x4)) + (1 : Int32)).toNatClampNeg)), .long (0 : Int64), .long (60 : Int64)]) (st := []) rfl rfl (Nat.le_of_ble_eq_true rfl) dX12_goers_161 (cI_use (M := (yX12_within, cX12_within, 6, some .boolean)) h ?_)
      intro r4 I4 L4 h
      refine jr_if_eq dX12_goers_164 (tgt := 190) (by decide) (fun c => ?_) (fun c => ?_)
      · rw [if_pos c] at h
        exact J.sub (wX12_goers_190_ok  hk69 _ _ _ _ _ _ _ h) (jsub_some (jsub_some (jsub_some (jsub_some (jsub_some (jsub_none (jsub_some jsub_nil)))))))
      · rw [if_neg c] at h
        refine jr_aload_n dX12_goers_167 rfl rfl ?_
        refine jr_geta ff_X12_74 ks_71 rr_71_51 dX12_goers_168 ?_
        refine jr_iload dX12_goers_171 rfl ?_
        refine jr_iconst dX12_goers_173 kic_2 ?_
        refine jr_iadd dX12_goers_174 ?_
        obtain ⟨g5, h⟩ := h
        refine jv_laload rfl rfl ks_91 dX12_goers_175 g5 ?_
        refine jr_lconst dX12_goers_176 klc_1 ?_
        refine jr_ldc2 kl_X12_116 dX12_goers_177 ?_
        refine jr_callS (mc2 := 0) (mc := 0) (ms2 := 0) (ms := 0) vm_X12_96 (av := [.long (L4 91 ((((((60 : Int32) * x1) + x2) + ((3 : Int32) * x4)) + (2 : Int32)).toNatClampNeg)), .long (1 : Int64), .long (9 : Int64)]) (st := []) rfl rfl (Nat.le_of_ble_eq_true rfl) dX12_goers_180 (cI_use (M := (yX12_within, cX12_within, 6, some .boolean)) h ?_)
        intro r6 I6 L6 h
        refine jr_if_eq dX12_goers_183 (tgt := 190) (by decide) (fun c => ?_) (fun c => ?_)
        · rw [if_pos c] at h
          exact J.sub (wX12_goers_190_ok  hk69 _ _ _ _ _ _ _ h) (jsub_some (jsub_some (jsub_some (jsub_some (jsub_some (jsub_none (jsub_some jsub_nil)))))))
        · rw [if_neg c] at h
          refine jr_iconst dX12_goers_186 kic_1 ?_
          refine jr_goto dX12_goers_187 (tgt := 191) (by decide) ?_
          exact J.sub (wX12_goers_191_ok  hk69 _ _ _ _ _ _ _ _ h) (jsub_some (jsub_some (jsub_some (jsub_some (jsub_some (jsub_none (jsub_some jsub_nil)))))))
def wX12_goers_110 (G : jG) (l : Launch) (d : Nat) (k69 : Int32 → Int32 → Int32 → Int32 → Int32 → jS → jL → Prop) (Q : Option Value → jS → jL → Prop) (x1 : Int32) (x2 : Int32) (x3 : Int32) (x4 : Int32) (I : jS) (L : jL) : Prop := wX12_goers_111 G l d k69 Q x1 x2 x3 x4 (0 : Int32) I L
set_option maxRecDepth 100000 in
set_option maxHeartbeats 4000000 in
theorem wX12_goers_110_ok {G : jG} {l : Launch} {d : Nat} {Q : Option Value → jS → jL → Prop} {k69 : Int32 → Int32 → Int32 → Int32 → Int32 → jS → jL → Prop} (hk69 : ∀ (x1 : Int32) (x2 : Int32) (x3 : Int32) (x4 : Int32) (x5 : Int32) (I : jS) (L : jL), k69 x1 x2 x3 x4 x5 I L → J G l yX12_goers cX12_goers 7 (d + 1) 0 0 69 [some (.ref 71), some (.int x1), some (.int x2), some (.int x3), some (.int x4), some (.int x5), none] [] (jKS, I, L, jR0) (jQm (some .int) Q)) : ∀ (x1 : Int32) (x2 : Int32) (x3 : Int32) (x4 : Int32) (I : jS) (L : jL), wX12_goers_110 G l d k69 Q x1 x2 x3 x4 I L → J G l yX12_goers cX12_goers 7 (d + 1) 0 0 110 [some (.ref 71), some (.int x1), some (.int x2), some (.int x3), some (.int x4), none, none] [] (jKS, I, L, jR0) (jQm (some .int) Q) := by
  intro x1 x2 x3 x4 I L h
  rw [wX12_goers_110] at h
  refine jr_iconst dX12_goers_110 kic_0 ?_
  exact J.sub (wX12_goers_111_ok  hk69 _ _ _ _ _ _ _ h) (jsub_some (jsub_some (jsub_some (jsub_some (jsub_some (jsub_none (jsub_none jsub_nil)))))))
def wX12_goers_69 (G : jG) (l : Launch) (d : Nat) (Q : Option Value → jS → jL → Prop) : Nat → Int32 → Int32 → Int32 → Int32 → Int32 → jS → jL → Prop
  | 0, _, _, _, _, _, _, _ => False
  | n69 + 1, x1, x2, x3, x4, x5, I, L => if x5 = 0 then (Q (some (.int x4)) I L) else (if x3 ≤ x4 then (Q (some (.int x4)) I L) else (vp_in x1 6 ∧ (if (((I 90 x1.toNatClampNeg) - (3 : Int32)) - ((3 : Int32) * x4)) < x2 then (wX12_goers_110 G l d (fun z0 z1 z2 z3 z4 I L => wX12_goers_69 G l d Q n69 z0 z1 z2 z3 z4 I L) Q x1 x2 x3 x4 I L) else (if (7 : Int32) ≤ (I 71 6) then (wX12_goers_110 G l d (fun z0 z1 z2 z3 z4 I L => wX12_goers_69 G l d Q n69 z0 z1 z2 z3 z4 I L) Q x1 x2 x3 x4 I L) else (wX12_goers_111 G l d (fun z0 z1 z2 z3 z4 I L => wX12_goers_69 G l d Q n69 z0 z1 z2 z3 z4 I L) Q x1 x2 x3 x4 (1 : Int32) I L)))))
set_option maxRecDepth 100000 in
set_option maxHeartbeats 4000000 in
theorem wX12_goers_69_ok {G : jG} {l : Launch} {d : Nat} {Q : Option Value → jS → jL → Prop} : ∀ (n : Nat) (x1 : Int32) (x2 : Int32) (x3 : Int32) (x4 : Int32) (x5 : Int32) (I : jS) (L : jL), wX12_goers_69 G l d Q n x1 x2 x3 x4 x5 I L → J G l yX12_goers cX12_goers 7 (d + 1) 0 0 69 [some (.ref 71), some (.int x1), some (.int x2), some (.int x3), some (.int x4), some (.int x5), none] [] (jKS, I, L, jR0) (jQm (some .int) Q) := by
  intro n
  induction n with
  | zero => intro x1 x2 x3 x4 x5 I L h; exact h.elim
  | succ n ih =>
    intro x1 x2 x3 x4 x5 I L h
    rw [wX12_goers_69] at h
    refine jr_iload dX12_goers_69 rfl ?_
    refine jr_if_eq dX12_goers_71 (tgt := 236) (by decide) (fun c => ?_) (fun c => ?_)
    · rw [if_pos c] at h
      refine jr_iload dX12_goers_236 rfl ?_
      exact jr_ireturn dX12_goers_238 ⟨Or.inr (Or.inl ⟨rfl, _, rfl⟩), _, _, rfl, h⟩
    · rw [if_neg c] at h
      refine jr_iload dX12_goers_74 rfl ?_
      refine jr_iload_n dX12_goers_76 rfl rfl ?_
      refine jr_icmp_ge dX12_goers_77 (tgt := 236) (by decide) (fun c => ?_) (fun c => ?_)
      · rw [if_pos c] at h
        refine jr_iload dX12_goers_236 rfl ?_
        exact jr_ireturn dX12_goers_238 ⟨Or.inr (Or.inl ⟨rfl, _, rfl⟩), _, _, rfl, h⟩
      · rw [if_neg c] at h
        refine jr_iload_n dX12_goers_80 rfl rfl ?_
        refine jr_aload_n dX12_goers_81 rfl rfl ?_
        refine jr_geta ff_X12_71 ks_71 rr_71_50 dX12_goers_82 ?_
        refine jr_iload_n dX12_goers_85 rfl rfl ?_
        obtain ⟨g1, h⟩ := h
        refine jv_iaload rfl rfl ks_90 dX12_goers_86 g1 ?_
        refine jr_iconst dX12_goers_87 kic_3 ?_
        refine jr_isub dX12_goers_88 ?_
        refine jr_iconst dX12_goers_89 kic_3 ?_
        refine jr_iload dX12_goers_90 rfl ?_
        refine jr_imul dX12_goers_92 ?_
        refine jr_isub dX12_goers_93 ?_
        refine jr_icmp_gt dX12_goers_94 (tgt := 110) (by decide) (fun c => ?_) (fun c => ?_)
        · rw [if_pos c] at h
          exact J.sub (wX12_goers_110_ok  ih _ _ _ _ _ _ h) (jsub_some (jsub_some (jsub_some (jsub_some (jsub_some (jsub_none (jsub_none jsub_nil)))))))
        · rw [if_neg c] at h
          refine jr_aload_n dX12_goers_97 rfl rfl ?_
          refine jv_geti rfl ff_X12_93 ks_71 dX12_goers_98 ?_
          refine jr_bipush dX12_goers_101 kbp_7 ?_
          refine jr_icmp_ge dX12_goers_103 (tgt := 110) (by decide) (fun c => ?_) (fun c => ?_)
          · rw [if_pos c] at h
            exact J.sub (wX12_goers_110_ok  ih _ _ _ _ _ _ h) (jsub_some (jsub_some (jsub_some (jsub_some (jsub_some (jsub_none (jsub_none jsub_nil)))))))
          · rw [if_neg c] at h
            refine jr_iconst dX12_goers_106 kic_1 ?_
            refine jr_goto dX12_goers_107 (tgt := 111) (by decide) ?_
            exact J.sub (wX12_goers_111_ok  ih _ _ _ _ _ _ _ h) (jsub_some (jsub_some (jsub_some (jsub_some (jsub_some (jsub_none (jsub_none jsub_nil)))))))
def wX12_goers_44 (G : jG) (l : Launch) (d : Nat) (Q : Option Value → jS → jL → Prop) (x1 : Int32) (x2 : Int32) (x3 : Int32) (I : jS) (L : jL) : Prop := vp_in x1 6 ∧ (if (I 89 x1.toNatClampNeg) = (50 : Int32) then (if x2 < 0 then (∃ e69 : Nat, wX12_goers_69 G l d Q e69 x1 x2 x3 (0 : Int32) (0 : Int32) I L) else (∃ e69 : Nat, wX12_goers_69 G l d Q e69 x1 x2 x3 (0 : Int32) (1 : Int32) I L)) else (∃ e69 : Nat, wX12_goers_69 G l d Q e69 x1 x2 x3 (0 : Int32) (0 : Int32) I L))
set_option maxRecDepth 100000 in
set_option maxHeartbeats 4000000 in
theorem wX12_goers_44_ok {G : jG} {l : Launch} {d : Nat} {Q : Option Value → jS → jL → Prop} : ∀ (x1 : Int32) (x2 : Int32) (x3 : Int32) (I : jS) (L : jL), wX12_goers_44 G l d Q x1 x2 x3 I L → J G l yX12_goers cX12_goers 7 (d + 1) 0 0 44 [some (.ref 71), some (.int x1), some (.int x2), some (.int x3), none, none, none] [] (jKS, I, L, jR0) (jQm (some .int) Q) := by
  intro x1 x2 x3 I L h
  rw [wX12_goers_44] at h
  refine jr_iconst dX12_goers_44 kic_0 ?_
  refine jr_istore dX12_goers_45 (by decide) rfl ?_
  refine jr_aload_n dX12_goers_47 rfl rfl ?_
  refine jr_geta ff_X12_68 ks_71 rr_71_49 dX12_goers_48 ?_
  refine jr_iload_n dX12_goers_51 rfl rfl ?_
  obtain ⟨g1, h⟩ := h
  refine jv_iaload rfl rfl ks_89 dX12_goers_52 g1 ?_
  refine jr_bipush dX12_goers_53 kbp_50 ?_
  refine jr_icmp_ne dX12_goers_55 (tgt := 66) (by decide) (fun c => ?_) (fun c => ?_)
  · rw [if_neg c] at h
    refine jr_iconst dX12_goers_66 kic_0 ?_
    refine jr_istore dX12_goers_67 (by decide) rfl ?_
    obtain ⟨e69, h⟩ := h
    exact J.sub (wX12_goers_69_ok  e69 _ _ _ _ _ _ _ h) (jsub_some (jsub_some (jsub_some (jsub_some (jsub_some (jsub_some (jsub_none jsub_nil)))))))
  · rw [if_pos c] at h
    refine jr_iload_n dX12_goers_58 rfl rfl ?_
    refine jr_if_lt dX12_goers_59 (tgt := 66) (by decide) (fun c => ?_) (fun c => ?_)
    · rw [if_pos c] at h
      refine jr_iconst dX12_goers_66 kic_0 ?_
      refine jr_istore dX12_goers_67 (by decide) rfl ?_
      obtain ⟨e69, h⟩ := h
      exact J.sub (wX12_goers_69_ok  e69 _ _ _ _ _ _ _ h) (jsub_some (jsub_some (jsub_some (jsub_some (jsub_some (jsub_some (jsub_none jsub_nil)))))))
    · rw [if_neg c] at h
      refine jr_iconst dX12_goers_62 kic_1 ?_
      refine jr_goto dX12_goers_63 (tgt := 67) (by decide) ?_
      refine jr_istore dX12_goers_67 (by decide) rfl ?_
      obtain ⟨e69, h⟩ := h
      exact J.sub (wX12_goers_69_ok  e69 _ _ _ _ _ _ _ h) (jsub_some (jsub_some (jsub_some (jsub_some (jsub_some (jsub_some (jsub_none jsub_nil)))))))
def wX12_goers (G : jG) (l : Launch) (d : Nat) (x1 : Int32) (x2 : Int32) (x3 : Int32) (I : jS) (L : jL) (Q : Option Value → jS → jL → Prop) : Prop := cI G l mX12_isShelf d [.int x1] I L (fun r1 I1 L1 => (if r1 = 0 then (Q (some (.int (-1 : Int32))) I1 L1) else (cI G l mX12_within d [.long (x3.toInt64), .long (1 : Int64), .long (7 : Int64)] I1 L1 (fun r2 I2 L2 => (if r2 = 0 then (Q (some (.int (-1 : Int32))) I2 L2) else (vp_in x1 6 ∧ (if (I2 89 x1.toNatClampNeg) < 0 then (wX12_goers_44 G l d Q x1 x2 x3 I2 L2) else (if (I2 89 x1.toNatClampNeg) = (50 : Int32) then (wX12_goers_44 G l d Q x1 x2 x3 I2 L2) else (Q (some (.int (-12 : Int32))) I2 L2)))))))))
set_option maxRecDepth 100000 in
set_option maxHeartbeats 4000000 in
theorem wX12_goers_ok {G : jG} {l : Launch} {d : Nat} {Q : Option Value → jS → jL → Prop} {x1 : Int32} {x2 : Int32} {x3 : Int32} {I : jS} {L : jL} (h : wX12_goers G l d x1 x2 x3 I L Q) : cM G l mX12_goers (d + 1) [.ref 71, .int x1, .int x2, .int x3] I L Q := by
  rw [wX12_goers] at h
  show jCall G l yX12_goers cX12_goers 7 (some .int) (d + 1) 0 0 _ (jKS, I, L, jR0) _
  refine jCall_of (n0 := 3) (ls := [some (.ref 71), some (.int x1), some (.int x2), some (.int x3), none, none, none]) (by decide +kernel) rfl (Nat.le_of_ble_eq_true rfl) (jQm_of ?_)
  refine jr_iload_n dX12_goers_0 rfl rfl ?_
  refine jr_callS (mc2 := 0) (mc := 0) (ms2 := 0) (ms := 0) vm_X12_110 (av := [.int x1]) (st := []) rfl rfl (Nat.le_of_ble_eq_true rfl) dX12_goers_1 (cI_use (M := (yX12_isShelf, cX12_isShelf, 1, some .boolean)) h ?_)
  intro r1 I1 L1 h
  refine jr_if_eq dX12_goers_4 (tgt := 19) (by decide) (fun c => ?_) (fun c => ?_)
  · rw [if_pos c] at h
    refine jr_iconst dX12_goers_19 kic_m1 ?_
    exact jr_ireturn dX12_goers_20 ⟨Or.inr (Or.inl ⟨rfl, _, rfl⟩), _, _, rfl, h⟩
  · rw [if_neg c] at h
    refine jr_iload_n dX12_goers_7 rfl rfl ?_
    refine jr_i2l dX12_goers_8 ?_
    refine jr_lconst dX12_goers_9 klc_1 ?_
    refine jr_ldc2 kl_X12_114 dX12_goers_10 ?_
    refine jr_callS (mc2 := 0) (mc := 0) (ms2 := 0) (ms := 0) vm_X12_96 (av := [.long (x3.toInt64), .long (1 : Int64), .long (7 : Int64)]) (st := []) rfl rfl (Nat.le_of_ble_eq_true rfl) dX12_goers_13 (cI_use (M := (yX12_within, cX12_within, 6, some .boolean)) h ?_)
    intro r2 I2 L2 h
    refine jr_if_ne dX12_goers_16 (tgt := 21) (by decide) (fun c => ?_) (fun c => ?_)
    · rw [if_neg c] at h
      refine jr_aload_n dX12_goers_21 rfl rfl ?_
      refine jr_geta ff_X12_68 ks_71 rr_71_49 dX12_goers_22 ?_
      refine jr_iload_n dX12_goers_25 rfl rfl ?_
      obtain ⟨g3, h⟩ := h
      refine jv_iaload rfl rfl ks_89 dX12_goers_26 g3 ?_
      refine jr_if_lt dX12_goers_27 (tgt := 44) (by decide) (fun c => ?_) (fun c => ?_)
      · rw [if_pos c] at h
        exact J.sub (wX12_goers_44_ok  _ _ _ _ _ h) (jsub_some (jsub_some (jsub_some (jsub_some (jsub_none (jsub_none (jsub_none jsub_nil)))))))
      · rw [if_neg c] at h
        refine jr_aload_n dX12_goers_30 rfl rfl ?_
        refine jr_geta ff_X12_68 ks_71 rr_71_49 dX12_goers_31 ?_
        refine jr_iload_n dX12_goers_34 rfl rfl ?_
        refine jv_iaload rfl rfl ks_89 dX12_goers_35 g3 ?_
        refine jr_bipush dX12_goers_36 kbp_50 ?_
        refine jr_icmp_eq dX12_goers_38 (tgt := 44) (by decide) (fun c => ?_) (fun c => ?_)
        · rw [if_pos c] at h
          exact J.sub (wX12_goers_44_ok  _ _ _ _ _ h) (jsub_some (jsub_some (jsub_some (jsub_some (jsub_none (jsub_none (jsub_none jsub_nil)))))))
        · rw [if_neg c] at h
          refine jr_bipush dX12_goers_41 kbp_m12 ?_
          exact jr_ireturn dX12_goers_43 ⟨Or.inr (Or.inl ⟨rfl, _, rfl⟩), _, _, rfl, h⟩
    · rw [if_pos c] at h
      refine jr_iconst dX12_goers_19 kic_m1 ?_
      exact jr_ireturn dX12_goers_20 ⟨Or.inr (Or.inl ⟨rfl, _, rfl⟩), _, _, rfl, h⟩
def wX12_placeOf (G : jG) (l : Launch) (d : Nat) (x1 : Int32) (x2 : Int32) (I : jS) (L : jL) (Q : Option Value → jS → jL → Prop) : Prop := cI G l mX12_within d [.long (x2.toInt64), .long (0 : Int64), .long (3 : Int64)] I L (fun r1 I1 L1 => (if r1 = 0 then (cI G l mX12_within d [.long (x2.toInt64), .long (4 : Int64), .long (7 : Int64)] I1 L1 (fun r2 I2 L2 => (if r2 = 0 then (if x2 = (8 : Int32) then (if x1 = 0 then (Q (some (.int (124 : Int32))) I2 L2) else (Q (some (.int (-1 : Int32))) I2 L2)) else (Q (some (.int (-1 : Int32))) I2 L2)) else (cI G l mX12_isGoer d [.ref 71, .long (x1.toInt64)] I2 L2 (fun r3 I3 L3 => (if r3 = 0 then (Q (some (.int (-1 : Int32))) I3 L3) else (Q (some (.int (((96 : Int32) + ((7 : Int32) * (x2 - (4 : Int32)))) + x1))) I3 L3))))))) else (cI G l mX12_isSquare d [.int x1] I1 L1 (fun r4 I4 L4 => (if r4 = 0 then (Q (some (.int (-1 : Int32))) I4 L4) else (Q (some (.int (((24 : Int32) * x2) + x1))) I4 L4))))))
set_option maxRecDepth 100000 in
set_option maxHeartbeats 4000000 in
theorem wX12_placeOf_ok {G : jG} {l : Launch} {d : Nat} {Q : Option Value → jS → jL → Prop} {x1 : Int32} {x2 : Int32} {I : jS} {L : jL} (h : wX12_placeOf G l d x1 x2 I L Q) : cM G l mX12_placeOf (d + 1) [.ref 71, .int x1, .int x2] I L Q := by
  rw [wX12_placeOf] at h
  show jCall G l yX12_placeOf cX12_placeOf 3 (some .int) (d + 1) 0 0 _ (jKS, I, L, jR0) _
  refine jCall_of (n0 := 0) (ls := [some (.ref 71), some (.int x1), some (.int x2)]) (by decide +kernel) rfl (Nat.le_of_ble_eq_true rfl) (jQm_of ?_)
  refine jr_iload_n dX12_placeOf_0 rfl rfl ?_
  refine jr_i2l dX12_placeOf_1 ?_
  refine jr_lconst dX12_placeOf_2 klc_0 ?_
  refine jr_ldc2 kl_X12_118 dX12_placeOf_3 ?_
  refine jr_callS (mc2 := 0) (mc := 0) (ms2 := 0) (ms := 0) vm_X12_96 (av := [.long (x2.toInt64), .long (0 : Int64), .long (3 : Int64)]) (st := []) rfl rfl (Nat.le_of_ble_eq_true rfl) dX12_placeOf_6 (cI_use (M := (yX12_within, cX12_within, 6, some .boolean)) h ?_)
  intro r1 I1 L1 h
  refine jr_if_eq dX12_placeOf_9 (tgt := 30) (by decide) (fun c => ?_) (fun c => ?_)
  · rw [if_pos c] at h
    refine jr_iload_n dX12_placeOf_30 rfl rfl ?_
    refine jr_i2l dX12_placeOf_31 ?_
    refine jr_ldc2 kl_X12_123 dX12_placeOf_32 ?_
    refine jr_ldc2 kl_X12_114 dX12_placeOf_35 ?_
    refine jr_callS (mc2 := 0) (mc := 0) (ms2 := 0) (ms := 0) vm_X12_96 (av := [.long (x2.toInt64), .long (4 : Int64), .long (7 : Int64)]) (st := []) rfl rfl (Nat.le_of_ble_eq_true rfl) dX12_placeOf_38 (cI_use (M := (yX12_within, cX12_within, 6, some .boolean)) h ?_)
    intro r2 I2 L2 h
    refine jr_if_eq dX12_placeOf_41 (tgt := 69) (by decide) (fun c => ?_) (fun c => ?_)
    · rw [if_pos c] at h
      refine jr_iload_n dX12_placeOf_69 rfl rfl ?_
      refine jr_bipush dX12_placeOf_70 kbp_8 ?_
      refine jr_icmp_ne dX12_placeOf_72 (tgt := 84) (by decide) (fun c => ?_) (fun c => ?_)
      · rw [if_neg c] at h
        refine jr_iconst dX12_placeOf_84 kic_m1 ?_
        exact jr_ireturn dX12_placeOf_85 ⟨Or.inr (Or.inl ⟨rfl, _, rfl⟩), _, _, rfl, h⟩
      · rw [if_pos c] at h
        refine jr_iload_n dX12_placeOf_75 rfl rfl ?_
        refine jr_if_ne dX12_placeOf_76 (tgt := 84) (by decide) (fun c => ?_) (fun c => ?_)
        · rw [if_neg c] at h
          refine jr_iconst dX12_placeOf_84 kic_m1 ?_
          exact jr_ireturn dX12_placeOf_85 ⟨Or.inr (Or.inl ⟨rfl, _, rfl⟩), _, _, rfl, h⟩
        · rw [if_pos c] at h
          refine jr_bipush dX12_placeOf_79 kbp_124 ?_
          refine jr_goto dX12_placeOf_81 (tgt := 85) (by decide) ?_
          exact jr_ireturn dX12_placeOf_85 ⟨Or.inr (Or.inl ⟨rfl, _, rfl⟩), _, _, rfl, h⟩
    · rw [if_neg c] at h
      refine jr_aload_n dX12_placeOf_44 rfl rfl ?_
      refine jr_iload_n dX12_placeOf_45 rfl rfl ?_
      refine jr_i2l dX12_placeOf_46 ?_
      refine jr_callV (mc2 := 0) (mc := 0) (ms2 := 0) (ms := 0) vm_X12_125 (av := [.long (x1.toInt64)]) (st := []) rfl rfl ks_71 (by decide) rfl (Nat.le_of_ble_eq_true rfl) dX12_placeOf_47 (cI_use (M := (yX12_isGoer, cX12_isGoer, 3, some .boolean)) h ?_)
      intro r3 I3 L3 h
      refine jr_if_eq dX12_placeOf_50 (tgt := 67) (by decide) (fun c => ?_) (fun c => ?_)
      · rw [if_pos c] at h
        refine jr_iconst dX12_placeOf_67 kic_m1 ?_
        exact jr_ireturn dX12_placeOf_68 ⟨Or.inr (Or.inl ⟨rfl, _, rfl⟩), _, _, rfl, h⟩
      · rw [if_neg c] at h
        refine jr_bipush dX12_placeOf_53 kbp_96 ?_
        refine jr_bipush dX12_placeOf_55 kbp_7 ?_
        refine jr_iload_n dX12_placeOf_57 rfl rfl ?_
        refine jr_iconst dX12_placeOf_58 kic_4 ?_
        refine jr_isub dX12_placeOf_59 ?_
        refine jr_imul dX12_placeOf_60 ?_
        refine jr_iadd dX12_placeOf_61 ?_
        refine jr_iload_n dX12_placeOf_62 rfl rfl ?_
        refine jr_iadd dX12_placeOf_63 ?_
        refine jr_goto dX12_placeOf_64 (tgt := 68) (by decide) ?_
        exact jr_ireturn dX12_placeOf_68 ⟨Or.inr (Or.inl ⟨rfl, _, rfl⟩), _, _, rfl, h⟩
  · rw [if_neg c] at h
    refine jr_iload_n dX12_placeOf_12 rfl rfl ?_
    refine jr_callS (mc2 := 0) (mc := 0) (ms2 := 0) (ms := 0) vm_X12_120 (av := [.int x1]) (st := []) rfl rfl (Nat.le_of_ble_eq_true rfl) dX12_placeOf_13 (cI_use (M := (yX12_isSquare, cX12_isSquare, 1, some .boolean)) h ?_)
    intro r4 I4 L4 h
    refine jr_if_eq dX12_placeOf_16 (tgt := 28) (by decide) (fun c => ?_) (fun c => ?_)
    · rw [if_pos c] at h
      refine jr_iconst dX12_placeOf_28 kic_m1 ?_
      exact jr_ireturn dX12_placeOf_29 ⟨Or.inr (Or.inl ⟨rfl, _, rfl⟩), _, _, rfl, h⟩
    · rw [if_neg c] at h
      refine jr_bipush dX12_placeOf_19 kbp_24 ?_
      refine jr_iload_n dX12_placeOf_21 rfl rfl ?_
      refine jr_imul dX12_placeOf_22 ?_
      refine jr_iload_n dX12_placeOf_23 rfl rfl ?_
      refine jr_iadd dX12_placeOf_24 ?_
      refine jr_goto dX12_placeOf_25 (tgt := 29) (by decide) ?_
      exact jr_ireturn dX12_placeOf_29 ⟨Or.inr (Or.inl ⟨rfl, _, rfl⟩), _, _, rfl, h⟩
def wX12_mayBecome (G : jG) (l : Launch) (d : Nat) (x0 : Int32) (x1 : Int32) (I : jS) (L : jL) (Q : Option Value → jS → jL → Prop) : Prop := if x0 = (1 : Int32) then (cI G l mX12_within d [.long (x1.toInt64), .long (0 : Int64), .long (9 : Int64)] I L (fun r1 I1 L1 => ((r1 = 0 ∨ r1 = 1) ∧ Q (some (.int r1)) I1 L1))) else (if x0 = (2 : Int32) then (cI G l mX12_within d [.long (x1.toInt64), .long (0 : Int64), .long (12 : Int64)] I L (fun r2 I2 L2 => ((r2 = 0 ∨ r2 = 1) ∧ Q (some (.int r2)) I2 L2))) else (if x0 = (3 : Int32) then (cI G l mX12_within d [.long (x1.toInt64), .long (0 : Int64), .long (99 : Int64)] I L (fun r3 I3 L3 => ((r3 = 0 ∨ r3 = 1) ∧ Q (some (.int r3)) I3 L3))) else (if x0 = (4 : Int32) then (cI G l mX12_within d [.long (x1.toInt64), .long (1 : Int64), .long (60 : Int64)] I L (fun r4 I4 L4 => ((r4 = 0 ∨ r4 = 1) ∧ Q (some (.int r4)) I4 L4))) else (if x0 = (5 : Int32) then (cI G l mX12_within d [.long (x1.toInt64), .long (0 : Int64), .long (1 : Int64)] I L (fun r5 I5 L5 => ((r5 = 0 ∨ r5 = 1) ∧ Q (some (.int r5)) I5 L5))) else (if x0 = (6 : Int32) then (cI G l mX12_within d [.long (x1.toInt64), .long (0 : Int64), .long (60 : Int64)] I L (fun r6 I6 L6 => ((r6 = 0 ∨ r6 = 1) ∧ Q (some (.int r6)) I6 L6))) else (if x0 = (7 : Int32) then (cI G l mX12_within d [.long (x1.toInt64), .long (1 : Int64), .long (9 : Int64)] I L (fun r7 I7 L7 => ((r7 = 0 ∨ r7 = 1) ∧ Q (some (.int r7)) I7 L7))) else (if x0 = (8 : Int32) then (cI G l mX12_within d [.long (x1.toInt64), .long (0 : Int64), .long (999 : Int64)] I L (fun r8 I8 L8 => ((r8 = 0 ∨ r8 = 1) ∧ Q (some (.int r8)) I8 L8))) else (cI G l mX12_within d [.long (x1.toInt64), .long (0 : Int64), .long (99 : Int64)] I L (fun r9 I9 L9 => ((r9 = 0 ∨ r9 = 1) ∧ Q (some (.int r9)) I9 L9))))))))))
set_option maxRecDepth 100000 in
set_option maxHeartbeats 4000000 in
theorem wX12_mayBecome_ok {G : jG} {l : Launch} {d : Nat} {Q : Option Value → jS → jL → Prop} {x0 : Int32} {x1 : Int32} {I : jS} {L : jL} (h : wX12_mayBecome G l d x0 x1 I L Q) : cM G l mX12_mayBecome (d + 1) [.int x0, .int x1] I L Q := by
  rw [wX12_mayBecome] at h
  show jCall G l yX12_mayBecome cX12_mayBecome 2 (some .boolean) (d + 1) 0 0 _ (jKS, I, L, jR0) _
  refine jCall_of (n0 := 0) (ls := [some (.int x0), some (.int x1)]) (by decide +kernel) rfl (Nat.le_of_ble_eq_true rfl) (jQm_of ?_)
  refine jr_iload_n dX12_mayBecome_0 rfl rfl ?_
  by_cases c : x0 = (1 : Int32)
  · rw [if_pos c] at h
    refine jr_tableIn dX12_mayBecome_1 (jtl c (by decide)) (jtg c (by decide)) (off := 47) (jtb c (by decide)) (tgt := 48) (by decide) ?_
    refine jr_iload_n dX12_mayBecome_48 rfl rfl ?_
    refine jr_i2l dX12_mayBecome_49 ?_
    refine jr_lconst dX12_mayBecome_50 klc_0 ?_
    refine jr_ldc2 kl_X12_116 dX12_mayBecome_51 ?_
    refine jr_callS (mc2 := 0) (mc := 0) (ms2 := 0) (ms := 0) vm_X12_96 (av := [.long (x1.toInt64), .long (0 : Int64), .long (9 : Int64)]) (st := []) rfl rfl (Nat.le_of_ble_eq_true rfl) dX12_mayBecome_54 (cI_use (M := (yX12_within, cX12_within, 6, some .boolean)) h ?_)
    intro r1 I1 L1 h
    obtain ⟨gz, h⟩ := h
    exact jr_ireturn dX12_mayBecome_57 ⟨Or.inr (Or.inr (Or.inr ⟨rfl, gz.imp (fun e => by rw [e]) (fun e => by rw [e])⟩)), _, _, rfl, h⟩
  · rw [if_neg c] at h
    have c1 := c
    by_cases c : x0 = (2 : Int32)
    · rw [if_pos c] at h
      refine jr_tableIn dX12_mayBecome_1 (jtl c (by decide)) (jtg c (by decide)) (off := 57) (jtb c (by decide)) (tgt := 58) (by decide) ?_
      refine jr_iload_n dX12_mayBecome_58 rfl rfl ?_
      refine jr_i2l dX12_mayBecome_59 ?_
      refine jr_lconst dX12_mayBecome_60 klc_0 ?_
      refine jr_ldc2 kl_X12_129 dX12_mayBecome_61 ?_
      refine jr_callS (mc2 := 0) (mc := 0) (ms2 := 0) (ms := 0) vm_X12_96 (av := [.long (x1.toInt64), .long (0 : Int64), .long (12 : Int64)]) (st := []) rfl rfl (Nat.le_of_ble_eq_true rfl) dX12_mayBecome_64 (cI_use (M := (yX12_within, cX12_within, 6, some .boolean)) h ?_)
      intro r2 I2 L2 h
      obtain ⟨gz, h⟩ := h
      exact jr_ireturn dX12_mayBecome_67 ⟨Or.inr (Or.inr (Or.inr ⟨rfl, gz.imp (fun e => by rw [e]) (fun e => by rw [e])⟩)), _, _, rfl, h⟩
    · rw [if_neg c] at h
      have c2 := c
      by_cases c : x0 = (3 : Int32)
      · rw [if_pos c] at h
        refine jr_tableIn dX12_mayBecome_1 (jtl c (by decide)) (jtg c (by decide)) (off := 115) (jtb c (by decide)) (tgt := 116) (by decide) ?_
        refine jr_iload_n dX12_mayBecome_116 rfl rfl ?_
        refine jr_i2l dX12_mayBecome_117 ?_
        refine jr_lconst dX12_mayBecome_118 klc_0 ?_
        refine jr_ldc2 kl_X12_133 dX12_mayBecome_119 ?_
        refine jr_callS (mc2 := 0) (mc := 0) (ms2 := 0) (ms := 0) vm_X12_96 (av := [.long (x1.toInt64), .long (0 : Int64), .long (99 : Int64)]) (st := []) rfl rfl (Nat.le_of_ble_eq_true rfl) dX12_mayBecome_122 (cI_use (M := (yX12_within, cX12_within, 6, some .boolean)) h ?_)
        intro r3 I3 L3 h
        obtain ⟨gz, h⟩ := h
        exact jr_ireturn dX12_mayBecome_125 ⟨Or.inr (Or.inr (Or.inr ⟨rfl, gz.imp (fun e => by rw [e]) (fun e => by rw [e])⟩)), _, _, rfl, h⟩
      · rw [if_neg c] at h
        have c3 := c
        by_cases c : x0 = (4 : Int32)
        · rw [if_pos c] at h
          refine jr_tableIn dX12_mayBecome_1 (jtl c (by decide)) (jtg c (by decide)) (off := 67) (jtb c (by decide)) (tgt := 68) (by decide) ?_
          refine jr_iload_n dX12_mayBecome_68 rfl rfl ?_
          refine jr_i2l dX12_mayBecome_69 ?_
          refine jr_lconst dX12_mayBecome_70 klc_1 ?_
          refine jr_ldc2 kl_X12_104 dX12_mayBecome_71 ?_
          refine jr_callS (mc2 := 0) (mc := 0) (ms2 := 0) (ms := 0) vm_X12_96 (av := [.long (x1.toInt64), .long (1 : Int64), .long (60 : Int64)]) (st := []) rfl rfl (Nat.le_of_ble_eq_true rfl) dX12_mayBecome_74 (cI_use (M := (yX12_within, cX12_within, 6, some .boolean)) h ?_)
          intro r4 I4 L4 h
          obtain ⟨gz, h⟩ := h
          exact jr_ireturn dX12_mayBecome_77 ⟨Or.inr (Or.inr (Or.inr ⟨rfl, gz.imp (fun e => by rw [e]) (fun e => by rw [e])⟩)), _, _, rfl, h⟩
        · rw [if_neg c] at h
          have c4 := c
          by_cases c : x0 = (5 : Int32)
          · rw [if_pos c] at h
            refine jr_tableIn dX12_mayBecome_1 (jtl c (by decide)) (jtg c (by decide)) (off := 77) (jtb c (by decide)) (tgt := 78) (by decide) ?_
            refine jr_iload_n dX12_mayBecome_78 rfl rfl ?_
            refine jr_i2l dX12_mayBecome_79 ?_
            refine jr_lconst dX12_mayBecome_80 klc_0 ?_
            refine jr_lconst dX12_mayBecome_81 klc_1 ?_
            refine jr_callS (mc2 := 0) (mc := 0) (ms2 := 0) (ms := 0) vm_X12_96 (av := [.long (x1.toInt64), .long (0 : Int64), .long (1 : Int64)]) (st := []) rfl rfl (Nat.le_of_ble_eq_true rfl) dX12_mayBecome_82 (cI_use (M := (yX12_within, cX12_within, 6, some .boolean)) h ?_)
            intro r5 I5 L5 h
            obtain ⟨gz, h⟩ := h
            exact jr_ireturn dX12_mayBecome_85 ⟨Or.inr (Or.inr (Or.inr ⟨rfl, gz.imp (fun e => by rw [e]) (fun e => by rw [e])⟩)), _, _, rfl, h⟩
          · rw [if_neg c] at h
            have c5 := c
            by_cases c : x0 = (6 : Int32)
            · rw [if_pos c] at h
              refine jr_tableIn dX12_mayBecome_1 (jtl c (by decide)) (jtg c (by decide)) (off := 85) (jtb c (by decide)) (tgt := 86) (by decide) ?_
              refine jr_iload_n dX12_mayBecome_86 rfl rfl ?_
              refine jr_i2l dX12_mayBecome_87 ?_
              refine jr_lconst dX12_mayBecome_88 klc_0 ?_
              refine jr_ldc2 kl_X12_104 dX12_mayBecome_89 ?_
              refine jr_callS (mc2 := 0) (mc := 0) (ms2 := 0) (ms := 0) vm_X12_96 (av := [.long (x1.toInt64), .long (0 : Int64), .long (60 : Int64)]) (st := []) rfl rfl (Nat.le_of_ble_eq_true rfl) dX12_mayBecome_92 (cI_use (M := (yX12_within, cX12_within, 6, some .boolean)) h ?_)
              intro r6 I6 L6 h
              obtain ⟨gz, h⟩ := h
              exact jr_ireturn dX12_mayBecome_95 ⟨Or.inr (Or.inr (Or.inr ⟨rfl, gz.imp (fun e => by rw [e]) (fun e => by rw [e])⟩)), _, _, rfl, h⟩
            · rw [if_neg c] at h
              have c6 := c
              by_cases c : x0 = (7 : Int32)
              · rw [if_pos c] at h
                refine jr_tableIn dX12_mayBecome_1 (jtl c (by decide)) (jtg c (by decide)) (off := 95) (jtb c (by decide)) (tgt := 96) (by decide) ?_
                refine jr_iload_n dX12_mayBecome_96 rfl rfl ?_
                refine jr_i2l dX12_mayBecome_97 ?_
                refine jr_lconst dX12_mayBecome_98 klc_1 ?_
                refine jr_ldc2 kl_X12_116 dX12_mayBecome_99 ?_
                refine jr_callS (mc2 := 0) (mc := 0) (ms2 := 0) (ms := 0) vm_X12_96 (av := [.long (x1.toInt64), .long (1 : Int64), .long (9 : Int64)]) (st := []) rfl rfl (Nat.le_of_ble_eq_true rfl) dX12_mayBecome_102 (cI_use (M := (yX12_within, cX12_within, 6, some .boolean)) h ?_)
                intro r7 I7 L7 h
                obtain ⟨gz, h⟩ := h
                exact jr_ireturn dX12_mayBecome_105 ⟨Or.inr (Or.inr (Or.inr ⟨rfl, gz.imp (fun e => by rw [e]) (fun e => by rw [e])⟩)), _, _, rfl, h⟩
              · rw [if_neg c] at h
                have c7 := c
                by_cases c : x0 = (8 : Int32)
                · rw [if_pos c] at h
                  refine jr_tableIn dX12_mayBecome_1 (jtl c (by decide)) (jtg c (by decide)) (off := 105) (jtb c (by decide)) (tgt := 106) (by decide) ?_
                  refine jr_iload_n dX12_mayBecome_106 rfl rfl ?_
                  refine jr_i2l dX12_mayBecome_107 ?_
                  refine jr_lconst dX12_mayBecome_108 klc_0 ?_
                  refine jr_ldc2 kl_X12_131 dX12_mayBecome_109 ?_
                  refine jr_callS (mc2 := 0) (mc := 0) (ms2 := 0) (ms := 0) vm_X12_96 (av := [.long (x1.toInt64), .long (0 : Int64), .long (999 : Int64)]) (st := []) rfl rfl (Nat.le_of_ble_eq_true rfl) dX12_mayBecome_112 (cI_use (M := (yX12_within, cX12_within, 6, some .boolean)) h ?_)
                  intro r8 I8 L8 h
                  obtain ⟨gz, h⟩ := h
                  exact jr_ireturn dX12_mayBecome_115 ⟨Or.inr (Or.inr (Or.inr ⟨rfl, gz.imp (fun e => by rw [e]) (fun e => by rw [e])⟩)), _, _, rfl, h⟩
                · rw [if_neg c] at h
                  have c8 := c
                  refine jr_tableOut dX12_mayBecome_1 (by
                    rcases Int.lt_or_le (x0).toInt (1) with q | q
                    · exact Or.inl q
                    · rcases Int.lt_or_le (8) (x0).toInt with q2 | q2
                      · exact Or.inr q2
                      · exfalso
                        have ec1 := lv_neT c1 (a := 1) rfl
                        have ec2 := lv_neT c2 (a := 2) rfl
                        have ec3 := lv_neT c3 (a := 3) rfl
                        have ec4 := lv_neT c4 (a := 4) rfl
                        have ec5 := lv_neT c5 (a := 5) rfl
                        have ec6 := lv_neT c6 (a := 6) rfl
                        have ec7 := lv_neT c7 (a := 7) rfl
                        have ec8 := lv_neT c8 (a := 8) rfl
                        omega) (tgt := 116) (by decide) ?_
                  refine jr_iload_n dX12_mayBecome_116 rfl rfl ?_
                  refine jr_i2l dX12_mayBecome_117 ?_
                  refine jr_lconst dX12_mayBecome_118 klc_0 ?_
                  refine jr_ldc2 kl_X12_133 dX12_mayBecome_119 ?_
                  refine jr_callS (mc2 := 0) (mc := 0) (ms2 := 0) (ms := 0) vm_X12_96 (av := [.long (x1.toInt64), .long (0 : Int64), .long (99 : Int64)]) (st := []) rfl rfl (Nat.le_of_ble_eq_true rfl) dX12_mayBecome_122 (cI_use (M := (yX12_within, cX12_within, 6, some .boolean)) h ?_)
                  intro r9 I9 L9 h
                  obtain ⟨gz, h⟩ := h
                  exact jr_ireturn dX12_mayBecome_125 ⟨Or.inr (Or.inr (Or.inr ⟨rfl, gz.imp (fun e => by rw [e]) (fun e => by rw [e])⟩)), _, _, rfl, h⟩
def wX12_mend (G : jG) (l : Launch) (d : Nat) (x1 : Int32) (x2 : Int32) (x3 : Int32) (I : jS) (L : jL) (Q : Option Value → jS → jL → Prop) : Prop := cI G l mX12_placeOf d [.ref 71, .int x1, .int x2] I L (fun r1 I1 L1 => (if r1 < 0 then (Q (some (.int (-1 : Int32))) I1 L1) else (cI G l mX12_mayBecome d [.int x2, .int x3] I1 L1 (fun r2 I2 L2 => (if r2 = 0 then (Q (some (.int (-1 : Int32))) I2 L2) else (cI G l mX12_becomes d [.ref 71, .int r1, .int x3] I2 L2 (fun r3 I3 L3 => (Q (some (.int r3)) I3 L3))))))))
set_option maxRecDepth 100000 in
set_option maxHeartbeats 4000000 in
theorem wX12_mend_ok {G : jG} {l : Launch} {d : Nat} {Q : Option Value → jS → jL → Prop} {x1 : Int32} {x2 : Int32} {x3 : Int32} {I : jS} {L : jL} (h : wX12_mend G l d x1 x2 x3 I L Q) : cM G l mX12_mend (d + 1) [.ref 71, .int x1, .int x2, .int x3] I L Q := by
  rw [wX12_mend] at h
  show jCall G l yX12_mend cX12_mend 5 (some .int) (d + 1) 0 0 _ (jKS, I, L, jR0) _
  refine jCall_of (n0 := 1) (ls := [some (.ref 71), some (.int x1), some (.int x2), some (.int x3), none]) (by decide +kernel) rfl (Nat.le_of_ble_eq_true rfl) (jQm_of ?_)
  refine jr_aload_n dX12_mend_0 rfl rfl ?_
  refine jr_iload_n dX12_mend_1 rfl rfl ?_
  refine jr_iload_n dX12_mend_2 rfl rfl ?_
  refine jr_callV (mc2 := 0) (mc := 0) (ms2 := 0) (ms := 0) vm_X12_135 (av := [.int x1, .int x2]) (st := []) rfl rfl ks_71 (by decide) rfl (Nat.le_of_ble_eq_true rfl) dX12_mend_3 (cI_use (M := (yX12_placeOf, cX12_placeOf, 3, some .int)) h ?_)
  intro r1 I1 L1 h
  refine jr_istore dX12_mend_6 (by decide) rfl ?_
  refine jr_iload dX12_mend_8 rfl ?_
  refine jr_if_lt dX12_mend_10 (tgt := 31) (by decide) (fun c => ?_) (fun c => ?_)
  · rw [if_pos c] at h
    refine jr_iconst dX12_mend_31 kic_m1 ?_
    exact jr_ireturn dX12_mend_32 ⟨Or.inr (Or.inl ⟨rfl, _, rfl⟩), _, _, rfl, h⟩
  · rw [if_neg c] at h
    refine jr_iload_n dX12_mend_13 rfl rfl ?_
    refine jr_iload_n dX12_mend_14 rfl rfl ?_
    refine jr_callS (mc2 := 0) (mc := 0) (ms2 := 0) (ms := 0) vm_X12_139 (av := [.int x2, .int x3]) (st := []) rfl rfl (Nat.le_of_ble_eq_true rfl) dX12_mend_15 (cI_use (M := (yX12_mayBecome, cX12_mayBecome, 2, some .boolean)) h ?_)
    intro r2 I2 L2 h
    refine jr_if_eq dX12_mend_18 (tgt := 31) (by decide) (fun c => ?_) (fun c => ?_)
    · rw [if_pos c] at h
      refine jr_iconst dX12_mend_31 kic_m1 ?_
      exact jr_ireturn dX12_mend_32 ⟨Or.inr (Or.inl ⟨rfl, _, rfl⟩), _, _, rfl, h⟩
    · rw [if_neg c] at h
      refine jr_aload_n dX12_mend_21 rfl rfl ?_
      refine jr_iload dX12_mend_22 rfl ?_
      refine jr_iload_n dX12_mend_24 rfl rfl ?_
      refine jr_callV (mc2 := 0) (mc := 0) (ms2 := 0) (ms := 0) vm_X12_143 (av := [.int r1, .int x3]) (st := []) rfl rfl ks_71 (by decide) rfl (Nat.le_of_ble_eq_true rfl) dX12_mend_25 (cI_use (M := (yX12_becomes, cX12_becomes, 5, some .int)) h ?_)
      intro r3 I3 L3 h
      refine jr_goto dX12_mend_28 (tgt := 32) (by decide) ?_
      exact jr_ireturn dX12_mend_32 ⟨Or.inr (Or.inl ⟨rfl, _, rfl⟩), _, _, rfl, h⟩
def wX12_of (G : jG) (l : Launch) (d : Nat) (x1 : Int32) (x2 : Int32) (I : jS) (L : jL) (Q : Option Value → jS → jL → Prop) : Prop := cI G l mX12_placeOf d [.ref 71, .int x1, .int x2] I L (fun r1 I1 L1 => (if r1 < 0 then (if x2 = (10 : Int32) then (cI G l mX12_isSquare d [.int x1] I1 L1 (fun r2 I2 L2 => (if r2 = 0 then (Q (some (.int (-1 : Int32))) I2 L2) else (vp_in x1 24 ∧ (Q (some (.int (I2 76 x1.toNatClampNeg))) I2 L2))))) else (if x2 = (11 : Int32) then (cV G l mX12_begins1 d [.ref 71] I1 L1 (fun I4 L4 => (cI G l mX12_isSquare d [.int x1] I4 L4 (fun r5 I5 L5 => (if r5 = 0 then (Q (some (.int (-1 : Int32))) I5 L5) else (cI G l mX12_bearsAt d [.ref 71, .int x1] I5 L5 (fun r6 I6 L6 => (Q (some (.int r6)) I6 L6)))))))) else (if x2 = (12 : Int32) then (if x1 = 0 then (Q (some (.int (I1 71 8))) I1 L1) else (Q (some (.int (-1 : Int32))) I1 L1)) else (Q (some (.int (-1 : Int32))) I1 L1)))) else (vp_in r1 125 ∧ (Q (some (.int (I1 72 r1.toNatClampNeg))) I1 L1))))
set_option maxRecDepth 100000 in
set_option maxHeartbeats 4000000 in
theorem wX12_of_ok {G : jG} {l : Launch} {d : Nat} {Q : Option Value → jS → jL → Prop} {x1 : Int32} {x2 : Int32} {I : jS} {L : jL} (h : wX12_of G l d x1 x2 I L Q) : cM G l mX12_of (d + 1) [.ref 71, .int x1, .int x2] I L Q := by
  rw [wX12_of] at h
  show jCall G l yX12_of cX12_of 4 (some .int) (d + 1) 0 0 _ (jKS, I, L, jR0) _
  refine jCall_of (n0 := 1) (ls := [some (.ref 71), some (.int x1), some (.int x2), none]) (by decide +kernel) rfl (Nat.le_of_ble_eq_true rfl) (jQm_of ?_)
  refine jr_aload_n dX12_of_0 rfl rfl ?_
  refine jr_iload_n dX12_of_1 rfl rfl ?_
  refine jr_iload_n dX12_of_2 rfl rfl ?_
  refine jr_callV (mc2 := 0) (mc := 0) (ms2 := 0) (ms := 0) vm_X12_135 (av := [.int x1, .int x2]) (st := []) rfl rfl ks_71 (by decide) rfl (Nat.le_of_ble_eq_true rfl) dX12_of_3 (cI_use (M := (yX12_placeOf, cX12_placeOf, 3, some .int)) h ?_)
  intro r1 I1 L1 h
  refine jr_istore_n dX12_of_6 rfl (by decide) rfl ?_
  refine jr_iload_n dX12_of_7 rfl rfl ?_
  refine jr_if_lt dX12_of_8 (tgt := 18) (by decide) (fun c => ?_) (fun c => ?_)
  · rw [if_pos c] at h
    refine jr_iload_n dX12_of_18 rfl rfl ?_
    by_cases c : x2 = (10 : Int32)
    · rw [if_pos c] at h
      refine jr_tableIn dX12_of_19 (jtl c (by decide)) (jtg c (by decide)) (off := 25) (jtb c (by decide)) (tgt := 44) (by decide) ?_
      refine jr_iload_n dX12_of_44 rfl rfl ?_
      refine jr_callS (mc2 := 0) (mc := 0) (ms2 := 0) (ms := 0) vm_X12_120 (av := [.int x1]) (st := []) rfl rfl (Nat.le_of_ble_eq_true rfl) dX12_of_45 (cI_use (M := (yX12_isSquare, cX12_isSquare, 1, some .boolean)) h ?_)
      intro r2 I2 L2 h
      refine jr_if_eq dX12_of_48 (tgt := 60) (by decide) (fun c => ?_) (fun c => ?_)
      · rw [if_pos c] at h
        refine jr_iconst dX12_of_60 kic_m1 ?_
        exact jr_ireturn dX12_of_61 ⟨Or.inr (Or.inl ⟨rfl, _, rfl⟩), _, _, rfl, h⟩
      · rw [if_neg c] at h
        refine jr_aload_n dX12_of_51 rfl rfl ?_
        refine jr_geta ff_X12_24 ks_71 rr_71_7 dX12_of_52 ?_
        refine jr_iload_n dX12_of_55 rfl rfl ?_
        obtain ⟨g3, h⟩ := h
        refine jv_iaload rfl rfl ks_76 dX12_of_56 g3 ?_
        refine jr_goto dX12_of_57 (tgt := 61) (by decide) ?_
        exact jr_ireturn dX12_of_61 ⟨Or.inr (Or.inl ⟨rfl, _, rfl⟩), _, _, rfl, h⟩
    · rw [if_neg c] at h
      have c10 := c
      by_cases c : x2 = (11 : Int32)
      · rw [if_pos c] at h
        refine jr_tableIn dX12_of_19 (jtl c (by decide)) (jtg c (by decide)) (off := 43) (jtb c (by decide)) (tgt := 62) (by decide) ?_
        refine jr_aload_n dX12_of_62 rfl rfl ?_
        refine jr_callV (mc2 := 0) (mc := 0) (ms2 := 0) (ms := 0) vm_X12_146 (av := []) (st := []) rfl rfl ks_71 (by decide) rfl (Nat.le_of_ble_eq_true rfl) dX12_of_63 (cV_use (M := (yX12_begins1, cX12_begins1, 2, none)) h ?_)
        intro I4 L4 h
        refine jr_iload_n dX12_of_66 rfl rfl ?_
        refine jr_callS (mc2 := 0) (mc := 0) (ms2 := 0) (ms := 0) vm_X12_120 (av := [.int x1]) (st := []) rfl rfl (Nat.le_of_ble_eq_true rfl) dX12_of_67 (cI_use (M := (yX12_isSquare, cX12_isSquare, 1, some .boolean)) h ?_)
        intro r5 I5 L5 h
        refine jr_if_eq dX12_of_70 (tgt := 81) (by decide) (fun c => ?_) (fun c => ?_)
        · rw [if_pos c] at h
          refine jr_iconst dX12_of_81 kic_m1 ?_
          exact jr_ireturn dX12_of_82 ⟨Or.inr (Or.inl ⟨rfl, _, rfl⟩), _, _, rfl, h⟩
        · rw [if_neg c] at h
          refine jr_aload_n dX12_of_73 rfl rfl ?_
          refine jr_iload_n dX12_of_74 rfl rfl ?_
          refine jr_callV (mc2 := 0) (mc := 0) (ms2 := 0) (ms := 0) vm_X12_149 (av := [.int x1]) (st := []) rfl rfl ks_71 (by decide) rfl (Nat.le_of_ble_eq_true rfl) dX12_of_75 (cI_use (M := (yX12_bearsAt, cX12_bearsAt, 4, some .int)) h ?_)
          intro r6 I6 L6 h
          refine jr_goto dX12_of_78 (tgt := 82) (by decide) ?_
          exact jr_ireturn dX12_of_82 ⟨Or.inr (Or.inl ⟨rfl, _, rfl⟩), _, _, rfl, h⟩
      · rw [if_neg c] at h
        have c11 := c
        by_cases c : x2 = (12 : Int32)
        · rw [if_pos c] at h
          refine jr_tableIn dX12_of_19 (jtl c (by decide)) (jtg c (by decide)) (off := 64) (jtb c (by decide)) (tgt := 83) (by decide) ?_
          refine jr_iload_n dX12_of_83 rfl rfl ?_
          refine jr_if_ne dX12_of_84 (tgt := 94) (by decide) (fun c => ?_) (fun c => ?_)
          · rw [if_neg c] at h
            refine jr_iconst dX12_of_94 kic_m1 ?_
            exact jr_ireturn dX12_of_95 ⟨Or.inr (Or.inl ⟨rfl, _, rfl⟩), _, _, rfl, h⟩
          · rw [if_pos c] at h
            refine jr_aload_n dX12_of_87 rfl rfl ?_
            refine jv_geti rfl ff_X12_153 ks_71 dX12_of_88 ?_
            refine jr_goto dX12_of_91 (tgt := 95) (by decide) ?_
            exact jr_ireturn dX12_of_95 ⟨Or.inr (Or.inl ⟨rfl, _, rfl⟩), _, _, rfl, h⟩
        · rw [if_neg c] at h
          have c12 := c
          refine jr_tableOut dX12_of_19 (by
            rcases Int.lt_or_le (x2).toInt (10) with q | q
            · exact Or.inl q
            · rcases Int.lt_or_le (12) (x2).toInt with q2 | q2
              · exact Or.inr q2
              · exfalso
                have ec10 := lv_neT c10 (a := 10) rfl
                have ec11 := lv_neT c11 (a := 11) rfl
                have ec12 := lv_neT c12 (a := 12) rfl
                omega) (tgt := 96) (by decide) ?_
          refine jr_iconst dX12_of_96 kic_m1 ?_
          exact jr_ireturn dX12_of_97 ⟨Or.inr (Or.inl ⟨rfl, _, rfl⟩), _, _, rfl, h⟩
  · rw [if_neg c] at h
    refine jr_aload_n dX12_of_11 rfl rfl ?_
    refine jr_geta ff_X12_11 ks_71 rr_71_0 dX12_of_12 ?_
    refine jr_iload_n dX12_of_15 rfl rfl ?_
    obtain ⟨g7, h⟩ := h
    refine jv_iaload rfl rfl ks_72 dX12_of_16 g7 ?_
    exact jr_ireturn dX12_of_17 ⟨Or.inr (Or.inl ⟨rfl, _, rfl⟩), _, _, rfl, h⟩
def wX12_feed (G : jG) (l : Launch) (d : Nat) (x1 : Int32) (I : jS) (L : jL) (Q : Option Value → jS → jL → Prop) : Prop := cI G l mX12_within d [.long (x1.toInt64), .long (0 : Int64), .long (255 : Int64)] I L (fun r1 I1 L1 => (if r1 = 0 then (Q (some (.int (-1 : Int32))) I1 L1) else (if (I1 71 10) = (120 : Int32) then (Q (some (.int (-3 : Int32))) I1 L1) else (vp_in (I1 71 10) 120 ∧ (Q (some (.int ((I1 71 10) + (1 : Int32)))) (u2 (u2 I1 77 ((I1 71 10).toNatClampNeg) x1) 71 10 ((I1 71 10) + (1 : Int32))) L1)))))
set_option maxRecDepth 100000 in
set_option maxHeartbeats 4000000 in
theorem wX12_feed_ok {G : jG} {l : Launch} {d : Nat} {Q : Option Value → jS → jL → Prop} {x1 : Int32} {I : jS} {L : jL} (h : wX12_feed G l d x1 I L Q) : cM G l mX12_feed (d + 1) [.ref 71, .int x1] I L Q := by
  rw [wX12_feed] at h
  show jCall G l yX12_feed cX12_feed 2 (some .int) (d + 1) 0 0 _ (jKS, I, L, jR0) _
  refine jCall_of (n0 := 0) (ls := [some (.ref 71), some (.int x1)]) (by decide +kernel) rfl (Nat.le_of_ble_eq_true rfl) (jQm_of ?_)
  refine jr_iload_n dX12_feed_0 rfl rfl ?_
  refine jr_i2l dX12_feed_1 ?_
  refine jr_lconst dX12_feed_2 klc_0 ?_
  refine jr_ldc2 kl_X12_156 dX12_feed_3 ?_
  refine jr_callS (mc2 := 0) (mc := 0) (ms2 := 0) (ms := 0) vm_X12_96 (av := [.long (x1.toInt64), .long (0 : Int64), .long (255 : Int64)]) (st := []) rfl rfl (Nat.le_of_ble_eq_true rfl) dX12_feed_6 (cI_use (M := (yX12_within, cX12_within, 6, some .boolean)) h ?_)
  intro r1 I1 L1 h
  refine jr_if_ne dX12_feed_9 (tgt := 14) (by decide) (fun c => ?_) (fun c => ?_)
  · rw [if_neg c] at h
    refine jr_aload_n dX12_feed_14 rfl rfl ?_
    refine jv_geti rfl ff_X12_158 ks_71 dX12_feed_15 ?_
    refine jr_bipush dX12_feed_18 kbp_120 ?_
    refine jr_icmp_ne dX12_feed_20 (tgt := 26) (by decide) (fun c => ?_) (fun c => ?_)
    · rw [if_neg c] at h
      refine jr_aload_n dX12_feed_26 rfl rfl ?_
      refine jr_geta ff_X12_27 ks_71 rr_71_9 dX12_feed_27 ?_
      refine jr_aload_n dX12_feed_30 rfl rfl ?_
      refine jv_geti rfl ff_X12_158 ks_71 dX12_feed_31 ?_
      refine jr_iload_n dX12_feed_34 rfl rfl ?_
      obtain ⟨g2, h⟩ := h
      refine jr_iastore rfl ks_77 dX12_feed_35 g2 ?_
      refine jr_aload_n dX12_feed_36 rfl rfl ?_
      refine jr_dup dX12_feed_37 rfl ?_
      refine jv_geti (u2n (by decide)) ff_X12_158 ks_71 dX12_feed_38 ?_
      refine jr_iconst dX12_feed_41 kic_1 ?_
      refine jr_iadd dX12_feed_42 ?_
      refine jr_puti ff_X12_158 ks_71 dX12_feed_43 ?_
      refine jr_aload_n dX12_feed_46 rfl rfl ?_
      refine jv_geti u2e ff_X12_158 ks_71 dX12_feed_47 ?_
      exact jr_ireturn dX12_feed_50 ⟨Or.inr (Or.inl ⟨rfl, _, rfl⟩), _, _, rfl, h⟩
    · rw [if_pos c] at h
      refine jr_bipush dX12_feed_23 kbp_m3 ?_
      exact jr_ireturn dX12_feed_25 ⟨Or.inr (Or.inl ⟨rfl, _, rfl⟩), _, _, rfl, h⟩
  · rw [if_pos c] at h
    refine jr_iconst dX12_feed_12 kic_m1 ?_
    exact jr_ireturn dX12_feed_13 ⟨Or.inr (Or.inl ⟨rfl, _, rfl⟩), _, _, rfl, h⟩
def wX12_byteAt (G : jG) (l : Launch) (d : Nat) (I : jS) (L : jL) (Q : Option Value → jS → jL → Prop) : Prop := if (I 71 15) ≤ (I 71 14) then (Q (some (.int (0 : Int32))) I L) else (if 0 ≤ (I 71 13) then (vp_in ((I 71 13) + (I 71 14)) 120 ∧ (Q (some (.int (I 78 (((I 71 13) + (I 71 14)).toNatClampNeg)))) I L)) else (vp_in (I 71 14) 120 ∧ (Q (some (.int (I 77 ((I 71 14).toNatClampNeg)))) I L)))
set_option maxRecDepth 100000 in
set_option maxHeartbeats 4000000 in
theorem wX12_byteAt_ok {G : jG} {l : Launch} {d : Nat} {Q : Option Value → jS → jL → Prop} {I : jS} {L : jL} (h : wX12_byteAt G l d I L Q) : cM G l mX12_byteAt (d + 1) [.ref 71] I L Q := by
  rw [wX12_byteAt] at h
  show jCall G l yX12_byteAt cX12_byteAt 1 (some .int) (d + 1) 0 0 _ (jKS, I, L, jR0) _
  refine jCall_of (n0 := 0) (ls := [some (.ref 71)]) (by decide +kernel) rfl (Nat.le_of_ble_eq_true rfl) (jQm_of ?_)
  refine jr_aload_n dX12_byteAt_0 rfl rfl ?_
  refine jv_geti rfl ff_X12_161 ks_71 dX12_byteAt_1 ?_
  refine jr_aload_n dX12_byteAt_4 rfl rfl ?_
  refine jv_geti rfl ff_X12_164 ks_71 dX12_byteAt_5 ?_
  refine jr_icmp_ge dX12_byteAt_8 (tgt := 47) (by decide) (fun c => ?_) (fun c => ?_)
  · rw [if_pos c] at h
    refine jr_iconst dX12_byteAt_47 kic_0 ?_
    exact jr_ireturn dX12_byteAt_48 ⟨Or.inr (Or.inl ⟨rfl, _, rfl⟩), _, _, rfl, h⟩
  · rw [if_neg c] at h
    refine jr_aload_n dX12_byteAt_11 rfl rfl ?_
    refine jv_geti rfl ff_X12_167 ks_71 dX12_byteAt_12 ?_
    refine jr_if_ge dX12_byteAt_15 (tgt := 30) (by decide) (fun c => ?_) (fun c => ?_)
    · rw [if_pos c] at h
      refine jr_aload_n dX12_byteAt_30 rfl rfl ?_
      refine jr_geta ff_X12_30 ks_71 rr_71_11 dX12_byteAt_31 ?_
      refine jr_aload_n dX12_byteAt_34 rfl rfl ?_
      refine jv_geti rfl ff_X12_167 ks_71 dX12_byteAt_35 ?_
      refine jr_aload_n dX12_byteAt_38 rfl rfl ?_
      refine jv_geti rfl ff_X12_161 ks_71 dX12_byteAt_39 ?_
      refine jr_iadd dX12_byteAt_42 ?_
      obtain ⟨g1, h⟩ := h
      refine jv_iaload rfl rfl ks_78 dX12_byteAt_43 g1 ?_
      refine jr_goto dX12_byteAt_44 (tgt := 48) (by decide) ?_
      exact jr_ireturn dX12_byteAt_48 ⟨Or.inr (Or.inl ⟨rfl, _, rfl⟩), _, _, rfl, h⟩
    · rw [if_neg c] at h
      refine jr_aload_n dX12_byteAt_18 rfl rfl ?_
      refine jr_geta ff_X12_27 ks_71 rr_71_9 dX12_byteAt_19 ?_
      refine jr_aload_n dX12_byteAt_22 rfl rfl ?_
      refine jv_geti rfl ff_X12_161 ks_71 dX12_byteAt_23 ?_
      obtain ⟨g2, h⟩ := h
      refine jv_iaload rfl rfl ks_77 dX12_byteAt_26 g2 ?_
      refine jr_goto dX12_byteAt_27 (tgt := 48) (by decide) ?_
      exact jr_ireturn dX12_byteAt_48 ⟨Or.inr (Or.inl ⟨rfl, _, rfl⟩), _, _, rfl, h⟩
def wX12_wrong (G : jG) (l : Launch) (d : Nat) (I : jS) (L : jL) (Q : Option Value → jS → jL → Prop) : Prop := if 0 ≤ (I 71 16) then (Q (some (.int (0 : Int32))) (u2 I 71 16 (I 71 16)) L) else (Q (some (.int (0 : Int32))) (u2 I 71 16 (I 71 14)) L)
set_option maxRecDepth 100000 in
set_option maxHeartbeats 4000000 in
theorem wX12_wrong_ok {G : jG} {l : Launch} {d : Nat} {Q : Option Value → jS → jL → Prop} {I : jS} {L : jL} (h : wX12_wrong G l d I L Q) : cM G l mX12_wrong (d + 1) [.ref 71] I L Q := by
  rw [wX12_wrong] at h
  show jCall G l yX12_wrong cX12_wrong 1 (some .int) (d + 1) 0 0 _ (jKS, I, L, jR0) _
  refine jCall_of (n0 := 0) (ls := [some (.ref 71)]) (by decide +kernel) rfl (Nat.le_of_ble_eq_true rfl) (jQm_of ?_)
  refine jr_aload_n dX12_wrong_0 rfl rfl ?_
  refine jr_aload_n dX12_wrong_1 rfl rfl ?_
  refine jv_geti rfl ff_X12_170 ks_71 dX12_wrong_2 ?_
  refine jr_if_ge dX12_wrong_5 (tgt := 15) (by decide) (fun c => ?_) (fun c => ?_)
  · rw [if_pos c] at h
    refine jr_aload_n dX12_wrong_15 rfl rfl ?_
    refine jv_geti rfl ff_X12_170 ks_71 dX12_wrong_16 ?_
    refine jr_puti ff_X12_170 ks_71 dX12_wrong_19 ?_
    refine jr_iconst dX12_wrong_22 kic_0 ?_
    exact jr_ireturn dX12_wrong_23 ⟨Or.inr (Or.inl ⟨rfl, _, rfl⟩), _, _, rfl, h⟩
  · rw [if_neg c] at h
    refine jr_aload_n dX12_wrong_8 rfl rfl ?_
    refine jv_geti rfl ff_X12_161 ks_71 dX12_wrong_9 ?_
    refine jr_goto dX12_wrong_12 (tgt := 19) (by decide) ?_
    refine jr_puti ff_X12_170 ks_71 dX12_wrong_19 ?_
    refine jr_iconst dX12_wrong_22 kic_0 ?_
    exact jr_ireturn dX12_wrong_23 ⟨Or.inr (Or.inl ⟨rfl, _, rfl⟩), _, _, rfl, h⟩
def wX12_takes (G : jG) (l : Launch) (d : Nat) (x1 : Int32) (I : jS) (L : jL) (Q : Option Value → jS → jL → Prop) : Prop := if 0 ≤ (I 71 16) then (Q (some (.int (0 : Int32))) I L) else (cI G l mX12_byteAt d [.ref 71] I L (fun r1 I1 L1 => (if r1 = x1 then (Q (some (.int (1 : Int32))) (u2 I1 71 14 ((I1 71 14) + (1 : Int32))) L1) else (Q (some (.int (0 : Int32))) I1 L1))))
set_option maxRecDepth 100000 in
set_option maxHeartbeats 4000000 in
theorem wX12_takes_ok {G : jG} {l : Launch} {d : Nat} {Q : Option Value → jS → jL → Prop} {x1 : Int32} {I : jS} {L : jL} (h : wX12_takes G l d x1 I L Q) : cM G l mX12_takes (d + 1) [.ref 71, .int x1] I L Q := by
  rw [wX12_takes] at h
  show jCall G l yX12_takes cX12_takes 2 (some .boolean) (d + 1) 0 0 _ (jKS, I, L, jR0) _
  refine jCall_of (n0 := 0) (ls := [some (.ref 71), some (.int x1)]) (by decide +kernel) rfl (Nat.le_of_ble_eq_true rfl) (jQm_of ?_)
  refine jr_aload_n dX12_takes_0 rfl rfl ?_
  refine jv_geti rfl ff_X12_170 ks_71 dX12_takes_1 ?_
  refine jr_if_ge dX12_takes_4 (tgt := 15) (by decide) (fun c => ?_) (fun c => ?_)
  · rw [if_pos c] at h
    refine jr_iconst dX12_takes_15 kic_0 ?_
    exact jr_ireturn dX12_takes_16 ⟨Or.inr (Or.inr (Or.inr ⟨rfl, Or.inl rfl⟩)), _, _, rfl, h⟩
  · rw [if_neg c] at h
    refine jr_aload_n dX12_takes_7 rfl rfl ?_
    refine jr_callV (mc2 := 0) (mc := 0) (ms2 := 0) (ms := 0) vm_X12_173 (av := []) (st := []) rfl rfl ks_71 (by decide) rfl (Nat.le_of_ble_eq_true rfl) dX12_takes_8 (cI_use (M := (yX12_byteAt, cX12_byteAt, 1, some .int)) h ?_)
    intro r1 I1 L1 h
    refine jr_iload_n dX12_takes_11 rfl rfl ?_
    refine jr_icmp_eq dX12_takes_12 (tgt := 17) (by decide) (fun c => ?_) (fun c => ?_)
    · rw [if_pos c] at h
      refine jr_aload_n dX12_takes_17 rfl rfl ?_
      refine jr_dup dX12_takes_18 rfl ?_
      refine jv_geti rfl ff_X12_161 ks_71 dX12_takes_19 ?_
      refine jr_iconst dX12_takes_22 kic_1 ?_
      refine jr_iadd dX12_takes_23 ?_
      refine jr_puti ff_X12_161 ks_71 dX12_takes_24 ?_
      refine jr_iconst dX12_takes_27 kic_1 ?_
      exact jr_ireturn dX12_takes_28 ⟨Or.inr (Or.inr (Or.inr ⟨rfl, Or.inr rfl⟩)), _, _, rfl, h⟩
    · rw [if_neg c] at h
      refine jr_iconst dX12_takes_15 kic_0 ?_
      exact jr_ireturn dX12_takes_16 ⟨Or.inr (Or.inr (Or.inr ⟨rfl, Or.inl rfl⟩)), _, _, rfl, h⟩
def wX12_either_5 (G : jG) (l : Launch) (d : Nat) (Q : Option Value → jS → jL → Prop) : Nat → Int32 → jS → jL → Prop
  | 0, _, _, _ => False
  | n5 + 1, x1, I, L => cI G l mX12_takes d [.ref 71, .int (124 : Int32)] I L (fun r1 I1 L1 => (if r1 = 0 then (Q (some (.int x1)) I1 L1) else (cI G l mX12_both d [.ref 71] I1 L1 (fun r2 I2 L2 => (if x1 = 0 then (if r2 = 0 then ((wX12_either_5 G l d Q n5) (0 : Int32) I2 L2) else ((wX12_either_5 G l d Q n5) (1 : Int32) I2 L2)) else ((wX12_either_5 G l d Q n5) (1 : Int32) I2 L2))))))
set_option maxRecDepth 100000 in
set_option maxHeartbeats 4000000 in
theorem wX12_either_5_ok {G : jG} {l : Launch} {d : Nat} {Q : Option Value → jS → jL → Prop} : ∀ (n : Nat) (x1 : Int32) (I : jS) (L : jL), wX12_either_5 G l d Q n x1 I L → J G l yX12_either cX12_either 3 (d + 1) 0 0 5 [some (.ref 71), some (.int x1), none] [] (jKS, I, L, jR0) (jQm (some .int) Q) := by
  intro n
  induction n with
  | zero => intro x1 I L h; exact h.elim
  | succ n ih =>
    intro x1 I L h
    rw [wX12_either_5] at h
    refine jr_aload_n dX12_either_5 rfl rfl ?_
    refine jr_bipush dX12_either_6 kbp_124 ?_
    refine jr_callV (mc2 := 0) (mc := 0) (ms2 := 0) (ms := 0) vm_X12_180 (av := [.int (124 : Int32)]) (st := []) rfl rfl ks_71 (by decide) rfl (Nat.le_of_ble_eq_true rfl) dX12_either_8 (cI_use (M := (yX12_takes, cX12_takes, 2, some .boolean)) h ?_)
    intro r1 I1 L1 h
    refine jr_if_eq dX12_either_11 (tgt := 36) (by decide) (fun c => ?_) (fun c => ?_)
    · rw [if_pos c] at h
      refine jr_iload_n dX12_either_36 rfl rfl ?_
      exact jr_ireturn dX12_either_37 ⟨Or.inr (Or.inl ⟨rfl, _, rfl⟩), _, _, rfl, h⟩
    · rw [if_neg c] at h
      refine jr_aload_n dX12_either_14 rfl rfl ?_
      refine jr_callV (mc2 := 0) (mc := 0) (ms2 := 0) (ms := 0) vm_X12_177 (av := []) (st := []) rfl rfl ks_71 (by decide) rfl (Nat.le_of_ble_eq_true rfl) dX12_either_15 (cI_use (M := (yX12_both, cX12_both, 3, some .int)) h ?_)
      intro r2 I2 L2 h
      refine jr_istore_n dX12_either_18 rfl (by decide) rfl ?_
      refine jr_iload_n dX12_either_19 rfl rfl ?_
      refine jr_if_ne dX12_either_20 (tgt := 27) (by decide) (fun c => ?_) (fun c => ?_)
      · rw [if_neg c] at h
        refine jr_iconst dX12_either_27 kic_1 ?_
        refine jr_goto dX12_either_28 (tgt := 32) (by decide) ?_
        refine jr_istore_n dX12_either_32 rfl (by decide) rfl ?_
        refine jr_goto dX12_either_33 (tgt := 5) (by decide) ?_
        exact J.sub (ih _ _ _ h) (jsub_some (jsub_some (jsub_none jsub_nil)))
      · rw [if_pos c] at h
        refine jr_iload_n dX12_either_23 rfl rfl ?_
        refine jr_if_eq dX12_either_24 (tgt := 31) (by decide) (fun c => ?_) (fun c => ?_)
        · rw [if_pos c] at h
          refine jr_iconst dX12_either_31 kic_0 ?_
          refine jr_istore_n dX12_either_32 rfl (by decide) rfl ?_
          refine jr_goto dX12_either_33 (tgt := 5) (by decide) ?_
          exact J.sub (ih _ _ _ h) (jsub_some (jsub_some (jsub_none jsub_nil)))
        · rw [if_neg c] at h
          refine jr_iconst dX12_either_27 kic_1 ?_
          refine jr_goto dX12_either_28 (tgt := 32) (by decide) ?_
          refine jr_istore_n dX12_either_32 rfl (by decide) rfl ?_
          refine jr_goto dX12_either_33 (tgt := 5) (by decide) ?_
          exact J.sub (ih _ _ _ h) (jsub_some (jsub_some (jsub_none jsub_nil)))
def wX12_either (G : jG) (l : Launch) (d : Nat) (I : jS) (L : jL) (Q : Option Value → jS → jL → Prop) : Prop := cI G l mX12_both d [.ref 71] I L (fun r1 I1 L1 => (∃ e5 : Nat, wX12_either_5 G l d Q e5 r1 I1 L1))
set_option maxRecDepth 100000 in
set_option maxHeartbeats 4000000 in
theorem wX12_either_ok {G : jG} {l : Launch} {d : Nat} {Q : Option Value → jS → jL → Prop} {I : jS} {L : jL} (h : wX12_either G l d I L Q) : cM G l mX12_either (d + 1) [.ref 71] I L Q := by
  rw [wX12_either] at h
  show jCall G l yX12_either cX12_either 3 (some .int) (d + 1) 0 0 _ (jKS, I, L, jR0) _
  refine jCall_of (n0 := 2) (ls := [some (.ref 71), none, none]) (by decide +kernel) rfl (Nat.le_of_ble_eq_true rfl) (jQm_of ?_)
  refine jr_aload_n dX12_either_0 rfl rfl ?_
  refine jr_callV (mc2 := 0) (mc := 0) (ms2 := 0) (ms := 0) vm_X12_177 (av := []) (st := []) rfl rfl ks_71 (by decide) rfl (Nat.le_of_ble_eq_true rfl) dX12_either_1 (cI_use (M := (yX12_both, cX12_both, 3, some .int)) h ?_)
  intro r1 I1 L1 h
  refine jr_istore_n dX12_either_4 rfl (by decide) rfl ?_
  obtain ⟨e5, h⟩ := h
  exact J.sub (wX12_either_5_ok  e5 _ _ _ h) (jsub_some (jsub_some (jsub_none jsub_nil)))
def wX12_both_5 (G : jG) (l : Launch) (d : Nat) (Q : Option Value → jS → jL → Prop) : Nat → Int32 → jS → jL → Prop
  | 0, _, _, _ => False
  | n5 + 1, x1, I, L => cI G l mX12_takes d [.ref 71, .int (38 : Int32)] I L (fun r1 I1 L1 => (if r1 = 0 then (Q (some (.int x1)) I1 L1) else (cI G l mX12_compared d [.ref 71] I1 L1 (fun r2 I2 L2 => (if x1 = 0 then ((wX12_both_5 G l d Q n5) (0 : Int32) I2 L2) else (if r2 = 0 then ((wX12_both_5 G l d Q n5) (0 : Int32) I2 L2) else ((wX12_both_5 G l d Q n5) (1 : Int32) I2 L2)))))))
set_option maxRecDepth 100000 in
set_option maxHeartbeats 4000000 in
theorem wX12_both_5_ok {G : jG} {l : Launch} {d : Nat} {Q : Option Value → jS → jL → Prop} : ∀ (n : Nat) (x1 : Int32) (I : jS) (L : jL), wX12_both_5 G l d Q n x1 I L → J G l yX12_both cX12_both 3 (d + 1) 0 0 5 [some (.ref 71), some (.int x1), none] [] (jKS, I, L, jR0) (jQm (some .int) Q) := by
  intro n
  induction n with
  | zero => intro x1 I L h; exact h.elim
  | succ n ih =>
    intro x1 I L h
    rw [wX12_both_5] at h
    refine jr_aload_n dX12_both_5 rfl rfl ?_
    refine jr_bipush dX12_both_6 kbp_38 ?_
    refine jr_callV (mc2 := 0) (mc := 0) (ms2 := 0) (ms := 0) vm_X12_180 (av := [.int (38 : Int32)]) (st := []) rfl rfl ks_71 (by decide) rfl (Nat.le_of_ble_eq_true rfl) dX12_both_8 (cI_use (M := (yX12_takes, cX12_takes, 2, some .boolean)) h ?_)
    intro r1 I1 L1 h
    refine jr_if_eq dX12_both_11 (tgt := 36) (by decide) (fun c => ?_) (fun c => ?_)
    · rw [if_pos c] at h
      refine jr_iload_n dX12_both_36 rfl rfl ?_
      exact jr_ireturn dX12_both_37 ⟨Or.inr (Or.inl ⟨rfl, _, rfl⟩), _, _, rfl, h⟩
    · rw [if_neg c] at h
      refine jr_aload_n dX12_both_14 rfl rfl ?_
      refine jr_callV (mc2 := 0) (mc := 0) (ms2 := 0) (ms := 0) vm_X12_183 (av := []) (st := []) rfl rfl ks_71 (by decide) rfl (Nat.le_of_ble_eq_true rfl) dX12_both_15 (cI_use (M := (yX12_compared, cX12_compared, 4, some .int)) h ?_)
      intro r2 I2 L2 h
      refine jr_istore_n dX12_both_18 rfl (by decide) rfl ?_
      refine jr_iload_n dX12_both_19 rfl rfl ?_
      refine jr_if_eq dX12_both_20 (tgt := 31) (by decide) (fun c => ?_) (fun c => ?_)
      · rw [if_pos c] at h
        refine jr_iconst dX12_both_31 kic_0 ?_
        refine jr_istore_n dX12_both_32 rfl (by decide) rfl ?_
        refine jr_goto dX12_both_33 (tgt := 5) (by decide) ?_
        exact J.sub (ih _ _ _ h) (jsub_some (jsub_some (jsub_none jsub_nil)))
      · rw [if_neg c] at h
        refine jr_iload_n dX12_both_23 rfl rfl ?_
        refine jr_if_eq dX12_both_24 (tgt := 31) (by decide) (fun c => ?_) (fun c => ?_)
        · rw [if_pos c] at h
          refine jr_iconst dX12_both_31 kic_0 ?_
          refine jr_istore_n dX12_both_32 rfl (by decide) rfl ?_
          refine jr_goto dX12_both_33 (tgt := 5) (by decide) ?_
          exact J.sub (ih _ _ _ h) (jsub_some (jsub_some (jsub_none jsub_nil)))
        · rw [if_neg c] at h
          refine jr_iconst dX12_both_27 kic_1 ?_
          refine jr_goto dX12_both_28 (tgt := 32) (by decide) ?_
          refine jr_istore_n dX12_both_32 rfl (by decide) rfl ?_
          refine jr_goto dX12_both_33 (tgt := 5) (by decide) ?_
          exact J.sub (ih _ _ _ h) (jsub_some (jsub_some (jsub_none jsub_nil)))
def wX12_both (G : jG) (l : Launch) (d : Nat) (I : jS) (L : jL) (Q : Option Value → jS → jL → Prop) : Prop := cI G l mX12_compared d [.ref 71] I L (fun r1 I1 L1 => (∃ e5 : Nat, wX12_both_5 G l d Q e5 r1 I1 L1))
set_option maxRecDepth 100000 in
set_option maxHeartbeats 4000000 in
theorem wX12_both_ok {G : jG} {l : Launch} {d : Nat} {Q : Option Value → jS → jL → Prop} {I : jS} {L : jL} (h : wX12_both G l d I L Q) : cM G l mX12_both (d + 1) [.ref 71] I L Q := by
  rw [wX12_both] at h
  show jCall G l yX12_both cX12_both 3 (some .int) (d + 1) 0 0 _ (jKS, I, L, jR0) _
  refine jCall_of (n0 := 2) (ls := [some (.ref 71), none, none]) (by decide +kernel) rfl (Nat.le_of_ble_eq_true rfl) (jQm_of ?_)
  refine jr_aload_n dX12_both_0 rfl rfl ?_
  refine jr_callV (mc2 := 0) (mc := 0) (ms2 := 0) (ms := 0) vm_X12_183 (av := []) (st := []) rfl rfl ks_71 (by decide) rfl (Nat.le_of_ble_eq_true rfl) dX12_both_1 (cI_use (M := (yX12_compared, cX12_compared, 4, some .int)) h ?_)
  intro r1 I1 L1 h
  refine jr_istore_n dX12_both_4 rfl (by decide) rfl ?_
  obtain ⟨e5, h⟩ := h
  exact J.sub (wX12_both_5_ok  e5 _ _ _ h) (jsub_some (jsub_some (jsub_none jsub_nil)))
def wX12_compared_37 (G : jG) (l : Launch) (d : Nat) (Q : Option Value → jS → jL → Prop) (x1 : Int32) (x2 : Int32) (I : jS) (L : jL) : Prop := cI G l mX12_sums d [.ref 71] (u2 I 71 14 ((I 71 14) + (1 : Int32))) L (fun r1 I1 L1 => (if x2 = (60 : Int32) then (if r1 ≤ x1 then (Q (some (.int (0 : Int32))) I1 L1) else (Q (some (.int (1 : Int32))) I1 L1)) else (if x2 = (61 : Int32) then (if x1 = r1 then (Q (some (.int (1 : Int32))) I1 L1) else (Q (some (.int (0 : Int32))) I1 L1)) else (if x1 ≤ r1 then (Q (some (.int (0 : Int32))) I1 L1) else (Q (some (.int (1 : Int32))) I1 L1)))))
set_option maxRecDepth 100000 in
set_option maxHeartbeats 4000000 in
theorem wX12_compared_37_ok {G : jG} {l : Launch} {d : Nat} {Q : Option Value → jS → jL → Prop} : ∀ (x1 : Int32) (x2 : Int32) (I : jS) (L : jL), wX12_compared_37 G l d Q x1 x2 I L → J G l yX12_compared cX12_compared 4 (d + 1) 0 0 37 [some (.ref 71), some (.int x1), some (.int x2), none] [] (jKS, I, L, jR0) (jQm (some .int) Q) := by
  intro x1 x2 I L h
  rw [wX12_compared_37] at h
  refine jr_aload_n dX12_compared_37 rfl rfl ?_
  refine jr_dup dX12_compared_38 rfl ?_
  refine jv_geti rfl ff_X12_161 ks_71 dX12_compared_39 ?_
  refine jr_iconst dX12_compared_42 kic_1 ?_
  refine jr_iadd dX12_compared_43 ?_
  refine jr_puti ff_X12_161 ks_71 dX12_compared_44 ?_
  refine jr_aload_n dX12_compared_47 rfl rfl ?_
  refine jr_callV (mc2 := 0) (mc := 0) (ms2 := 0) (ms := 0) vm_X12_186 (av := []) (st := []) rfl rfl ks_71 (by decide) rfl (Nat.le_of_ble_eq_true rfl) dX12_compared_48 (cI_use (M := (yX12_sums, cX12_sums, 4, some .int)) h ?_)
  intro r1 I1 L1 h
  refine jr_istore_n dX12_compared_51 rfl (by decide) rfl ?_
  refine jr_iload_n dX12_compared_52 rfl rfl ?_
  refine jr_bipush dX12_compared_53 kbp_60 ?_
  refine jr_icmp_ne dX12_compared_55 (tgt := 66) (by decide) (fun c => ?_) (fun c => ?_)
  · rw [if_neg c] at h
    refine jr_iload_n dX12_compared_66 rfl rfl ?_
    refine jr_bipush dX12_compared_67 kbp_61 ?_
    refine jr_icmp_ne dX12_compared_69 (tgt := 80) (by decide) (fun c => ?_) (fun c => ?_)
    · rw [if_neg c] at h
      refine jr_iload_n dX12_compared_80 rfl rfl ?_
      refine jr_iload_n dX12_compared_81 rfl rfl ?_
      refine jr_icmp_le dX12_compared_82 (tgt := 89) (by decide) (fun c => ?_) (fun c => ?_)
      · rw [if_pos c] at h
        refine jr_iconst dX12_compared_89 kic_0 ?_
        exact jr_ireturn dX12_compared_90 ⟨Or.inr (Or.inl ⟨rfl, _, rfl⟩), _, _, rfl, h⟩
      · rw [if_neg c] at h
        refine jr_iconst dX12_compared_85 kic_1 ?_
        refine jr_goto dX12_compared_86 (tgt := 90) (by decide) ?_
        exact jr_ireturn dX12_compared_90 ⟨Or.inr (Or.inl ⟨rfl, _, rfl⟩), _, _, rfl, h⟩
    · rw [if_pos c] at h
      refine jr_iload_n dX12_compared_72 rfl rfl ?_
      refine jr_iload_n dX12_compared_73 rfl rfl ?_
      refine jr_icmp_ne dX12_compared_74 (tgt := 89) (by decide) (fun c => ?_) (fun c => ?_)
      · rw [if_neg c] at h
        refine jr_iconst dX12_compared_89 kic_0 ?_
        exact jr_ireturn dX12_compared_90 ⟨Or.inr (Or.inl ⟨rfl, _, rfl⟩), _, _, rfl, h⟩
      · rw [if_pos c] at h
        refine jr_goto dX12_compared_77 (tgt := 85) (by decide) ?_
        refine jr_iconst dX12_compared_85 kic_1 ?_
        refine jr_goto dX12_compared_86 (tgt := 90) (by decide) ?_
        exact jr_ireturn dX12_compared_90 ⟨Or.inr (Or.inl ⟨rfl, _, rfl⟩), _, _, rfl, h⟩
  · rw [if_pos c] at h
    refine jr_iload_n dX12_compared_58 rfl rfl ?_
    refine jr_iload_n dX12_compared_59 rfl rfl ?_
    refine jr_icmp_ge dX12_compared_60 (tgt := 89) (by decide) (fun c => ?_) (fun c => ?_)
    · rw [if_pos c] at h
      refine jr_iconst dX12_compared_89 kic_0 ?_
      exact jr_ireturn dX12_compared_90 ⟨Or.inr (Or.inl ⟨rfl, _, rfl⟩), _, _, rfl, h⟩
    · rw [if_neg c] at h
      refine jr_goto dX12_compared_63 (tgt := 85) (by decide) ?_
      refine jr_iconst dX12_compared_85 kic_1 ?_
      refine jr_goto dX12_compared_86 (tgt := 90) (by decide) ?_
      exact jr_ireturn dX12_compared_90 ⟨Or.inr (Or.inl ⟨rfl, _, rfl⟩), _, _, rfl, h⟩
def wX12_compared (G : jG) (l : Launch) (d : Nat) (I : jS) (L : jL) (Q : Option Value → jS → jL → Prop) : Prop := cI G l mX12_sums d [.ref 71] I L (fun r1 I1 L1 => (cI G l mX12_byteAt d [.ref 71] I1 L1 (fun r2 I2 L2 => (if 0 ≤ (I2 71 16) then (Q (some (.int r1)) I2 L2) else (if r2 = (60 : Int32) then (wX12_compared_37 G l d Q r1 r2 I2 L2) else (if r2 = (61 : Int32) then (wX12_compared_37 G l d Q r1 r2 I2 L2) else (if r2 = (62 : Int32) then (wX12_compared_37 G l d Q r1 r2 I2 L2) else (Q (some (.int r1)) I2 L2))))))))
set_option maxRecDepth 100000 in
set_option maxHeartbeats 4000000 in
theorem wX12_compared_ok {G : jG} {l : Launch} {d : Nat} {Q : Option Value → jS → jL → Prop} {I : jS} {L : jL} (h : wX12_compared G l d I L Q) : cM G l mX12_compared (d + 1) [.ref 71] I L Q := by
  rw [wX12_compared] at h
  show jCall G l yX12_compared cX12_compared 4 (some .int) (d + 1) 0 0 _ (jKS, I, L, jR0) _
  refine jCall_of (n0 := 3) (ls := [some (.ref 71), none, none, none]) (by decide +kernel) rfl (Nat.le_of_ble_eq_true rfl) (jQm_of ?_)
  refine jr_aload_n dX12_compared_0 rfl rfl ?_
  refine jr_callV (mc2 := 0) (mc := 0) (ms2 := 0) (ms := 0) vm_X12_186 (av := []) (st := []) rfl rfl ks_71 (by decide) rfl (Nat.le_of_ble_eq_true rfl) dX12_compared_1 (cI_use (M := (yX12_sums, cX12_sums, 4, some .int)) h ?_)
  intro r1 I1 L1 h
  refine jr_istore_n dX12_compared_4 rfl (by decide) rfl ?_
  refine jr_aload_n dX12_compared_5 rfl rfl ?_
  refine jr_callV (mc2 := 0) (mc := 0) (ms2 := 0) (ms := 0) vm_X12_173 (av := []) (st := []) rfl rfl ks_71 (by decide) rfl (Nat.le_of_ble_eq_true rfl) dX12_compared_6 (cI_use (M := (yX12_byteAt, cX12_byteAt, 1, some .int)) h ?_)
  intro r2 I2 L2 h
  refine jr_istore_n dX12_compared_9 rfl (by decide) rfl ?_
  refine jr_aload_n dX12_compared_10 rfl rfl ?_
  refine jv_geti rfl ff_X12_170 ks_71 dX12_compared_11 ?_
  refine jr_if_ge dX12_compared_14 (tgt := 35) (by decide) (fun c => ?_) (fun c => ?_)
  · rw [if_pos c] at h
    refine jr_iload_n dX12_compared_35 rfl rfl ?_
    exact jr_ireturn dX12_compared_36 ⟨Or.inr (Or.inl ⟨rfl, _, rfl⟩), _, _, rfl, h⟩
  · rw [if_neg c] at h
    refine jr_iload_n dX12_compared_17 rfl rfl ?_
    refine jr_bipush dX12_compared_18 kbp_60 ?_
    refine jr_icmp_eq dX12_compared_20 (tgt := 37) (by decide) (fun c => ?_) (fun c => ?_)
    · rw [if_pos c] at h
      exact J.sub (wX12_compared_37_ok  _ _ _ _ h) (jsub_some (jsub_some (jsub_some (jsub_none jsub_nil))))
    · rw [if_neg c] at h
      refine jr_iload_n dX12_compared_23 rfl rfl ?_
      refine jr_bipush dX12_compared_24 kbp_61 ?_
      refine jr_icmp_eq dX12_compared_26 (tgt := 37) (by decide) (fun c => ?_) (fun c => ?_)
      · rw [if_pos c] at h
        exact J.sub (wX12_compared_37_ok  _ _ _ _ h) (jsub_some (jsub_some (jsub_some (jsub_none jsub_nil))))
      · rw [if_neg c] at h
        refine jr_iload_n dX12_compared_29 rfl rfl ?_
        refine jr_bipush dX12_compared_30 kbp_62 ?_
        refine jr_icmp_eq dX12_compared_32 (tgt := 37) (by decide) (fun c => ?_) (fun c => ?_)
        · rw [if_pos c] at h
          exact J.sub (wX12_compared_37_ok  _ _ _ _ h) (jsub_some (jsub_some (jsub_some (jsub_none jsub_nil))))
        · rw [if_neg c] at h
          refine jr_iload_n dX12_compared_35 rfl rfl ?_
          exact jr_ireturn dX12_compared_36 ⟨Or.inr (Or.inl ⟨rfl, _, rfl⟩), _, _, rfl, h⟩
def wX12_sums_44 (G : jG) (l : Launch) (d : Nat) (k5 : Int32 → jS → jL → Prop) (Q : Option Value → jS → jL → Prop) (x1 : Int32) (t0 : Int32) (I : jS) (L : jL) : Prop := cI G l mX12_product d [.ref 71] (u2 I 71 14 ((I 71 14) + (1 : Int32))) L (fun r1 I1 L1 => (if t0 = 0 then (k5 (x1 - r1) I1 L1) else (k5 (x1 + r1) I1 L1)))
set_option maxRecDepth 100000 in
set_option maxHeartbeats 4000000 in
theorem wX12_sums_44_ok {G : jG} {l : Launch} {d : Nat} {Q : Option Value → jS → jL → Prop} {k5 : Int32 → jS → jL → Prop} (hk5 : ∀ (x1 : Int32) (I : jS) (L : jL), k5 x1 I L → J G l yX12_sums cX12_sums 4 (d + 1) 0 0 5 [some (.ref 71), some (.int x1), none, none] [] (jKS, I, L, jR0) (jQm (some .int) Q)) : ∀ (x1 : Int32) (t0 : Int32) (I : jS) (L : jL), wX12_sums_44 G l d k5 Q x1 t0 I L → J G l yX12_sums cX12_sums 4 (d + 1) 0 0 44 [some (.ref 71), some (.int x1), none, none] [.int t0] (jKS, I, L, jR0) (jQm (some .int) Q) := by
  intro x1 t0 I L h
  rw [wX12_sums_44] at h
  refine jr_istore_n dX12_sums_44 rfl (by decide) rfl ?_
  refine jr_aload_n dX12_sums_45 rfl rfl ?_
  refine jr_dup dX12_sums_46 rfl ?_
  refine jv_geti rfl ff_X12_161 ks_71 dX12_sums_47 ?_
  refine jr_iconst dX12_sums_50 kic_1 ?_
  refine jr_iadd dX12_sums_51 ?_
  refine jr_puti ff_X12_161 ks_71 dX12_sums_52 ?_
  refine jr_aload_n dX12_sums_55 rfl rfl ?_
  refine jr_callV (mc2 := 0) (mc := 0) (ms2 := 0) (ms := 0) vm_X12_189 (av := []) (st := []) rfl rfl ks_71 (by decide) rfl (Nat.le_of_ble_eq_true rfl) dX12_sums_56 (cI_use (M := (yX12_product, cX12_product, 4, some .int)) h ?_)
  intro r1 I1 L1 h
  refine jr_istore_n dX12_sums_59 rfl (by decide) rfl ?_
  refine jr_iload_n dX12_sums_60 rfl rfl ?_
  refine jr_if_eq dX12_sums_61 (tgt := 70) (by decide) (fun c => ?_) (fun c => ?_)
  · rw [if_pos c] at h
    refine jr_iload_n dX12_sums_70 rfl rfl ?_
    refine jr_iload_n dX12_sums_71 rfl rfl ?_
    refine jr_isub dX12_sums_72 ?_
    refine jr_istore_n dX12_sums_73 rfl (by decide) rfl ?_
    refine jr_goto dX12_sums_74 (tgt := 5) (by decide) ?_
    exact J.sub (hk5 _ _ _ h) (jsub_some (jsub_some (jsub_none (jsub_none jsub_nil))))
  · rw [if_neg c] at h
    refine jr_iload_n dX12_sums_64 rfl rfl ?_
    refine jr_iload_n dX12_sums_65 rfl rfl ?_
    refine jr_iadd dX12_sums_66 ?_
    refine jr_goto dX12_sums_67 (tgt := 73) (by decide) ?_
    refine jr_istore_n dX12_sums_73 rfl (by decide) rfl ?_
    refine jr_goto dX12_sums_74 (tgt := 5) (by decide) ?_
    exact J.sub (hk5 _ _ _ h) (jsub_some (jsub_some (jsub_none (jsub_none jsub_nil))))
def wX12_sums_30 (G : jG) (l : Launch) (d : Nat) (k5 : Int32 → jS → jL → Prop) (Q : Option Value → jS → jL → Prop) (x1 : Int32) (I : jS) (L : jL) : Prop := cI G l mX12_byteAt d [.ref 71] I L (fun r1 I1 L1 => (if r1 = (43 : Int32) then (wX12_sums_44 G l d k5 Q x1 (1 : Int32) I1 L1) else (wX12_sums_44 G l d k5 Q x1 (0 : Int32) I1 L1)))
set_option maxRecDepth 100000 in
set_option maxHeartbeats 4000000 in
theorem wX12_sums_30_ok {G : jG} {l : Launch} {d : Nat} {Q : Option Value → jS → jL → Prop} {k5 : Int32 → jS → jL → Prop} (hk5 : ∀ (x1 : Int32) (I : jS) (L : jL), k5 x1 I L → J G l yX12_sums cX12_sums 4 (d + 1) 0 0 5 [some (.ref 71), some (.int x1), none, none] [] (jKS, I, L, jR0) (jQm (some .int) Q)) : ∀ (x1 : Int32) (I : jS) (L : jL), wX12_sums_30 G l d k5 Q x1 I L → J G l yX12_sums cX12_sums 4 (d + 1) 0 0 30 [some (.ref 71), some (.int x1), none, none] [] (jKS, I, L, jR0) (jQm (some .int) Q) := by
  intro x1 I L h
  rw [wX12_sums_30] at h
  refine jr_aload_n dX12_sums_30 rfl rfl ?_
  refine jr_callV (mc2 := 0) (mc := 0) (ms2 := 0) (ms := 0) vm_X12_173 (av := []) (st := []) rfl rfl ks_71 (by decide) rfl (Nat.le_of_ble_eq_true rfl) dX12_sums_31 (cI_use (M := (yX12_byteAt, cX12_byteAt, 1, some .int)) h ?_)
  intro r1 I1 L1 h
  refine jr_bipush dX12_sums_34 kbp_43 ?_
  refine jr_icmp_ne dX12_sums_36 (tgt := 43) (by decide) (fun c => ?_) (fun c => ?_)
  · rw [if_neg c] at h
    refine jr_iconst dX12_sums_43 kic_0 ?_
    exact J.sub (wX12_sums_44_ok  hk5 _ _ _ _ h) (jsub_some (jsub_some (jsub_none (jsub_none jsub_nil))))
  · rw [if_pos c] at h
    refine jr_iconst dX12_sums_39 kic_1 ?_
    refine jr_goto dX12_sums_40 (tgt := 44) (by decide) ?_
    exact J.sub (wX12_sums_44_ok  hk5 _ _ _ _ h) (jsub_some (jsub_some (jsub_none (jsub_none jsub_nil))))
def wX12_sums_5 (G : jG) (l : Launch) (d : Nat) (Q : Option Value → jS → jL → Prop) : Nat → Int32 → jS → jL → Prop
  | 0, _, _, _ => False
  | n5 + 1, x1, I, L => if 0 ≤ (I 71 16) then (Q (some (.int x1)) I L) else (cI G l mX12_byteAt d [.ref 71] I L (fun r1 I1 L1 => (if r1 = (43 : Int32) then (wX12_sums_30 G l d (fun z0 I L => wX12_sums_5 G l d Q n5 z0 I L) Q x1 I1 L1) else (cI G l mX12_byteAt d [.ref 71] I1 L1 (fun r2 I2 L2 => (if r2 = (45 : Int32) then (wX12_sums_30 G l d (fun z0 I L => wX12_sums_5 G l d Q n5 z0 I L) Q x1 I2 L2) else (Q (some (.int x1)) I2 L2)))))))
set_option maxRecDepth 100000 in
set_option maxHeartbeats 4000000 in
theorem wX12_sums_5_ok {G : jG} {l : Launch} {d : Nat} {Q : Option Value → jS → jL → Prop} : ∀ (n : Nat) (x1 : Int32) (I : jS) (L : jL), wX12_sums_5 G l d Q n x1 I L → J G l yX12_sums cX12_sums 4 (d + 1) 0 0 5 [some (.ref 71), some (.int x1), none, none] [] (jKS, I, L, jR0) (jQm (some .int) Q) := by
  intro n
  induction n with
  | zero => intro x1 I L h; exact h.elim
  | succ n ih =>
    intro x1 I L h
    rw [wX12_sums_5] at h
    refine jr_aload_n dX12_sums_5 rfl rfl ?_
    refine jv_geti rfl ff_X12_170 ks_71 dX12_sums_6 ?_
    refine jr_if_ge dX12_sums_9 (tgt := 77) (by decide) (fun c => ?_) (fun c => ?_)
    · rw [if_pos c] at h
      refine jr_iload_n dX12_sums_77 rfl rfl ?_
      exact jr_ireturn dX12_sums_78 ⟨Or.inr (Or.inl ⟨rfl, _, rfl⟩), _, _, rfl, h⟩
    · rw [if_neg c] at h
      refine jr_aload_n dX12_sums_12 rfl rfl ?_
      refine jr_callV (mc2 := 0) (mc := 0) (ms2 := 0) (ms := 0) vm_X12_173 (av := []) (st := []) rfl rfl ks_71 (by decide) rfl (Nat.le_of_ble_eq_true rfl) dX12_sums_13 (cI_use (M := (yX12_byteAt, cX12_byteAt, 1, some .int)) h ?_)
      intro r1 I1 L1 h
      refine jr_bipush dX12_sums_16 kbp_43 ?_
      refine jr_icmp_eq dX12_sums_18 (tgt := 30) (by decide) (fun c => ?_) (fun c => ?_)
      · rw [if_pos c] at h
        exact J.sub (wX12_sums_30_ok  ih _ _ _ h) (jsub_some (jsub_some (jsub_none (jsub_none jsub_nil))))
      · rw [if_neg c] at h
        refine jr_aload_n dX12_sums_21 rfl rfl ?_
        refine jr_callV (mc2 := 0) (mc := 0) (ms2 := 0) (ms := 0) vm_X12_173 (av := []) (st := []) rfl rfl ks_71 (by decide) rfl (Nat.le_of_ble_eq_true rfl) dX12_sums_22 (cI_use (M := (yX12_byteAt, cX12_byteAt, 1, some .int)) h ?_)
        intro r2 I2 L2 h
        refine jr_bipush dX12_sums_25 kbp_45 ?_
        refine jr_icmp_ne dX12_sums_27 (tgt := 77) (by decide) (fun c => ?_) (fun c => ?_)
        · rw [if_neg c] at h
          refine jr_iload_n dX12_sums_77 rfl rfl ?_
          exact jr_ireturn dX12_sums_78 ⟨Or.inr (Or.inl ⟨rfl, _, rfl⟩), _, _, rfl, h⟩
        · rw [if_pos c] at h
          exact J.sub (wX12_sums_30_ok  ih _ _ _ h) (jsub_some (jsub_some (jsub_none (jsub_none jsub_nil))))
def wX12_sums (G : jG) (l : Launch) (d : Nat) (I : jS) (L : jL) (Q : Option Value → jS → jL → Prop) : Prop := cI G l mX12_product d [.ref 71] I L (fun r1 I1 L1 => (∃ e5 : Nat, wX12_sums_5 G l d Q e5 r1 I1 L1))
set_option maxRecDepth 100000 in
set_option maxHeartbeats 4000000 in
theorem wX12_sums_ok {G : jG} {l : Launch} {d : Nat} {Q : Option Value → jS → jL → Prop} {I : jS} {L : jL} (h : wX12_sums G l d I L Q) : cM G l mX12_sums (d + 1) [.ref 71] I L Q := by
  rw [wX12_sums] at h
  show jCall G l yX12_sums cX12_sums 4 (some .int) (d + 1) 0 0 _ (jKS, I, L, jR0) _
  refine jCall_of (n0 := 3) (ls := [some (.ref 71), none, none, none]) (by decide +kernel) rfl (Nat.le_of_ble_eq_true rfl) (jQm_of ?_)
  refine jr_aload_n dX12_sums_0 rfl rfl ?_
  refine jr_callV (mc2 := 0) (mc := 0) (ms2 := 0) (ms := 0) vm_X12_189 (av := []) (st := []) rfl rfl ks_71 (by decide) rfl (Nat.le_of_ble_eq_true rfl) dX12_sums_1 (cI_use (M := (yX12_product, cX12_product, 4, some .int)) h ?_)
  intro r1 I1 L1 h
  refine jr_istore_n dX12_sums_4 rfl (by decide) rfl ?_
  obtain ⟨e5, h⟩ := h
  exact J.sub (wX12_sums_5_ok  e5 _ _ _ h) (jsub_some (jsub_some (jsub_none (jsub_none jsub_nil))))
def wX12_product_85 (G : jG) (l : Launch) (d : Nat) (k10 : Int32 → Int32 → jS → jL → Prop) (Q : Option Value → jS → jL → Prop) (t0 : Int32) (I : jS) (L : jL) : Prop := cI G l mX12_byteAt d [.ref 71] I L (fun r1 I1 L1 => (k10 t0 r1 I1 L1))
set_option maxRecDepth 100000 in
set_option maxHeartbeats 4000000 in
theorem wX12_product_85_ok {G : jG} {l : Launch} {d : Nat} {Q : Option Value → jS → jL → Prop} {k10 : Int32 → Int32 → jS → jL → Prop} (hk10 : ∀ (x1 : Int32) (x2 : Int32) (I : jS) (L : jL), k10 x1 x2 I L → J G l yX12_product cX12_product 4 (d + 1) 0 0 10 [some (.ref 71), some (.int x1), some (.int x2), none] [] (jKS, I, L, jR0) (jQm (some .int) Q)) : ∀ (t0 : Int32) (I : jS) (L : jL), wX12_product_85 G l d k10 Q t0 I L → J G l yX12_product cX12_product 4 (d + 1) 0 0 85 [some (.ref 71), none, none, none] [.int t0] (jKS, I, L, jR0) (jQm (some .int) Q) := by
  intro t0 I L h
  rw [wX12_product_85] at h
  refine jr_istore_n dX12_product_85 rfl (by decide) rfl ?_
  refine jr_aload_n dX12_product_86 rfl rfl ?_
  refine jr_callV (mc2 := 0) (mc := 0) (ms2 := 0) (ms := 0) vm_X12_173 (av := []) (st := []) rfl rfl ks_71 (by decide) rfl (Nat.le_of_ble_eq_true rfl) dX12_product_87 (cI_use (M := (yX12_byteAt, cX12_byteAt, 1, some .int)) h ?_)
  intro r1 I1 L1 h
  refine jr_istore_n dX12_product_90 rfl (by decide) rfl ?_
  refine jr_goto dX12_product_91 (tgt := 10) (by decide) ?_
  exact J.sub (hk10 _ _ _ _ h) (jsub_some (jsub_some (jsub_some (jsub_none jsub_nil))))
def wX12_product_35 (G : jG) (l : Launch) (d : Nat) (k10 : Int32 → Int32 → jS → jL → Prop) (Q : Option Value → jS → jL → Prop) (x1 : Int32) (x2 : Int32) (I : jS) (L : jL) : Prop := cI G l mX12_one d [.ref 71] (u2 I 71 14 ((I 71 14) + (1 : Int32))) L (fun r1 I1 L1 => (if x2 = (42 : Int32) then (wX12_product_85 G l d k10 Q (x1 * r1) I1 L1) else (if r1 = 0 then (wX12_product_85 G l d k10 Q (0 : Int32) I1 L1) else (if x2 = (47 : Int32) then (¬ r1 = 0 ∧ (wX12_product_85 G l d k10 Q (x1 / r1) I1 L1)) else (¬ r1 = 0 ∧ (wX12_product_85 G l d k10 Q (x1 - x1 / r1 * r1) I1 L1))))))
set_option maxRecDepth 100000 in
set_option maxHeartbeats 4000000 in
theorem wX12_product_35_ok {G : jG} {l : Launch} {d : Nat} {Q : Option Value → jS → jL → Prop} {k10 : Int32 → Int32 → jS → jL → Prop} (hk10 : ∀ (x1 : Int32) (x2 : Int32) (I : jS) (L : jL), k10 x1 x2 I L → J G l yX12_product cX12_product 4 (d + 1) 0 0 10 [some (.ref 71), some (.int x1), some (.int x2), none] [] (jKS, I, L, jR0) (jQm (some .int) Q)) : ∀ (x1 : Int32) (x2 : Int32) (I : jS) (L : jL), wX12_product_35 G l d k10 Q x1 x2 I L → J G l yX12_product cX12_product 4 (d + 1) 0 0 35 [some (.ref 71), some (.int x1), some (.int x2), none] [] (jKS, I, L, jR0) (jQm (some .int) Q) := by
  intro x1 x2 I L h
  rw [wX12_product_35] at h
  refine jr_aload_n dX12_product_35 rfl rfl ?_
  refine jr_dup dX12_product_36 rfl ?_
  refine jv_geti rfl ff_X12_161 ks_71 dX12_product_37 ?_
  refine jr_iconst dX12_product_40 kic_1 ?_
  refine jr_iadd dX12_product_41 ?_
  refine jr_puti ff_X12_161 ks_71 dX12_product_42 ?_
  refine jr_aload_n dX12_product_45 rfl rfl ?_
  refine jr_callV (mc2 := 0) (mc := 0) (ms2 := 0) (ms := 0) vm_X12_192 (av := []) (st := []) rfl rfl ks_71 (by decide) rfl (Nat.le_of_ble_eq_true rfl) dX12_product_46 (cI_use (M := (yX12_one, cX12_one, 5, some .int)) h ?_)
  intro r1 I1 L1 h
  refine jr_istore_n dX12_product_49 rfl (by decide) rfl ?_
  refine jr_iload_n dX12_product_50 rfl rfl ?_
  refine jr_bipush dX12_product_51 kbp_42 ?_
  refine jr_icmp_ne dX12_product_53 (tgt := 62) (by decide) (fun c => ?_) (fun c => ?_)
  · rw [if_neg c] at h
    refine jr_iload_n dX12_product_62 rfl rfl ?_
    refine jr_if_ne dX12_product_63 (tgt := 70) (by decide) (fun c => ?_) (fun c => ?_)
    · rw [if_neg c] at h
      refine jr_iload_n dX12_product_70 rfl rfl ?_
      refine jr_bipush dX12_product_71 kbp_47 ?_
      refine jr_icmp_ne dX12_product_73 (tgt := 82) (by decide) (fun c => ?_) (fun c => ?_)
      · rw [if_neg c] at h
        refine jr_iload_n dX12_product_82 rfl rfl ?_
        refine jr_iload_n dX12_product_83 rfl rfl ?_
        obtain ⟨g2, h⟩ := h
        refine jr_irem dX12_product_84 g2 ?_
        exact J.sub (wX12_product_85_ok  hk10 _ _ _ h) (jsub_some (jsub_none (jsub_none (jsub_none jsub_nil))))
      · rw [if_pos c] at h
        refine jr_iload_n dX12_product_76 rfl rfl ?_
        refine jr_iload_n dX12_product_77 rfl rfl ?_
        obtain ⟨g3, h⟩ := h
        refine jr_idiv dX12_product_78 g3 ?_
        refine jr_goto dX12_product_79 (tgt := 85) (by decide) ?_
        exact J.sub (wX12_product_85_ok  hk10 _ _ _ h) (jsub_some (jsub_none (jsub_none (jsub_none jsub_nil))))
    · rw [if_pos c] at h
      refine jr_iconst dX12_product_66 kic_0 ?_
      refine jr_goto dX12_product_67 (tgt := 85) (by decide) ?_
      exact J.sub (wX12_product_85_ok  hk10 _ _ _ h) (jsub_some (jsub_none (jsub_none (jsub_none jsub_nil))))
  · rw [if_pos c] at h
    refine jr_iload_n dX12_product_56 rfl rfl ?_
    refine jr_iload_n dX12_product_57 rfl rfl ?_
    refine jr_imul dX12_product_58 ?_
    refine jr_goto dX12_product_59 (tgt := 85) (by decide) ?_
    exact J.sub (wX12_product_85_ok  hk10 _ _ _ h) (jsub_some (jsub_none (jsub_none (jsub_none jsub_nil))))
def wX12_product_10 (G : jG) (l : Launch) (d : Nat) (Q : Option Value → jS → jL → Prop) : Nat → Int32 → Int32 → jS → jL → Prop
  | 0, _, _, _, _ => False
  | n10 + 1, x1, x2, I, L => if 0 ≤ (I 71 16) then (Q (some (.int x1)) I L) else (if x2 = (42 : Int32) then (wX12_product_35 G l d (fun z0 z1 I L => wX12_product_10 G l d Q n10 z0 z1 I L) Q x1 x2 I L) else (if x2 = (47 : Int32) then (wX12_product_35 G l d (fun z0 z1 I L => wX12_product_10 G l d Q n10 z0 z1 I L) Q x1 x2 I L) else (if x2 = (37 : Int32) then (wX12_product_35 G l d (fun z0 z1 I L => wX12_product_10 G l d Q n10 z0 z1 I L) Q x1 x2 I L) else (Q (some (.int x1)) I L))))
set_option maxRecDepth 100000 in
set_option maxHeartbeats 4000000 in
theorem wX12_product_10_ok {G : jG} {l : Launch} {d : Nat} {Q : Option Value → jS → jL → Prop} : ∀ (n : Nat) (x1 : Int32) (x2 : Int32) (I : jS) (L : jL), wX12_product_10 G l d Q n x1 x2 I L → J G l yX12_product cX12_product 4 (d + 1) 0 0 10 [some (.ref 71), some (.int x1), some (.int x2), none] [] (jKS, I, L, jR0) (jQm (some .int) Q) := by
  intro n
  induction n with
  | zero => intro x1 x2 I L h; exact h.elim
  | succ n ih =>
    intro x1 x2 I L h
    rw [wX12_product_10] at h
    refine jr_aload_n dX12_product_10 rfl rfl ?_
    refine jv_geti rfl ff_X12_170 ks_71 dX12_product_11 ?_
    refine jr_if_ge dX12_product_14 (tgt := 94) (by decide) (fun c => ?_) (fun c => ?_)
    · rw [if_pos c] at h
      refine jr_iload_n dX12_product_94 rfl rfl ?_
      exact jr_ireturn dX12_product_95 ⟨Or.inr (Or.inl ⟨rfl, _, rfl⟩), _, _, rfl, h⟩
    · rw [if_neg c] at h
      refine jr_iload_n dX12_product_17 rfl rfl ?_
      refine jr_bipush dX12_product_18 kbp_42 ?_
      refine jr_icmp_eq dX12_product_20 (tgt := 35) (by decide) (fun c => ?_) (fun c => ?_)
      · rw [if_pos c] at h
        exact J.sub (wX12_product_35_ok  ih _ _ _ _ h) (jsub_some (jsub_some (jsub_some (jsub_none jsub_nil))))
      · rw [if_neg c] at h
        refine jr_iload_n dX12_product_23 rfl rfl ?_
        refine jr_bipush dX12_product_24 kbp_47 ?_
        refine jr_icmp_eq dX12_product_26 (tgt := 35) (by decide) (fun c => ?_) (fun c => ?_)
        · rw [if_pos c] at h
          exact J.sub (wX12_product_35_ok  ih _ _ _ _ h) (jsub_some (jsub_some (jsub_some (jsub_none jsub_nil))))
        · rw [if_neg c] at h
          refine jr_iload_n dX12_product_29 rfl rfl ?_
          refine jr_bipush dX12_product_30 kbp_37 ?_
          refine jr_icmp_ne dX12_product_32 (tgt := 94) (by decide) (fun c => ?_) (fun c => ?_)
          · rw [if_neg c] at h
            refine jr_iload_n dX12_product_94 rfl rfl ?_
            exact jr_ireturn dX12_product_95 ⟨Or.inr (Or.inl ⟨rfl, _, rfl⟩), _, _, rfl, h⟩
          · rw [if_pos c] at h
            exact J.sub (wX12_product_35_ok  ih _ _ _ _ h) (jsub_some (jsub_some (jsub_some (jsub_none jsub_nil))))
def wX12_product (G : jG) (l : Launch) (d : Nat) (I : jS) (L : jL) (Q : Option Value → jS → jL → Prop) : Prop := cI G l mX12_one d [.ref 71] I L (fun r1 I1 L1 => (cI G l mX12_byteAt d [.ref 71] I1 L1 (fun r2 I2 L2 => (∃ e10 : Nat, wX12_product_10 G l d Q e10 r1 r2 I2 L2))))
set_option maxRecDepth 100000 in
set_option maxHeartbeats 4000000 in
theorem wX12_product_ok {G : jG} {l : Launch} {d : Nat} {Q : Option Value → jS → jL → Prop} {I : jS} {L : jL} (h : wX12_product G l d I L Q) : cM G l mX12_product (d + 1) [.ref 71] I L Q := by
  rw [wX12_product] at h
  show jCall G l yX12_product cX12_product 4 (some .int) (d + 1) 0 0 _ (jKS, I, L, jR0) _
  refine jCall_of (n0 := 3) (ls := [some (.ref 71), none, none, none]) (by decide +kernel) rfl (Nat.le_of_ble_eq_true rfl) (jQm_of ?_)
  refine jr_aload_n dX12_product_0 rfl rfl ?_
  refine jr_callV (mc2 := 0) (mc := 0) (ms2 := 0) (ms := 0) vm_X12_192 (av := []) (st := []) rfl rfl ks_71 (by decide) rfl (Nat.le_of_ble_eq_true rfl) dX12_product_1 (cI_use (M := (yX12_one, cX12_one, 5, some .int)) h ?_)
  intro r1 I1 L1 h
  refine jr_istore_n dX12_product_4 rfl (by decide) rfl ?_
  refine jr_aload_n dX12_product_5 rfl rfl ?_
  refine jr_callV (mc2 := 0) (mc := 0) (ms2 := 0) (ms := 0) vm_X12_173 (av := []) (st := []) rfl rfl ks_71 (by decide) rfl (Nat.le_of_ble_eq_true rfl) dX12_product_6 (cI_use (M := (yX12_byteAt, cX12_byteAt, 1, some .int)) h ?_)
  intro r2 I2 L2 h
  refine jr_istore_n dX12_product_9 rfl (by decide) rfl ?_
  obtain ⟨e10, h⟩ := h
  exact J.sub (wX12_product_10_ok  e10 _ _ _ _ h) (jsub_some (jsub_some (jsub_some (jsub_none jsub_nil))))
def wX12_nameOf (G : jG) (l : Launch) (d : Nat) (x0 : Int32) (I : jS) (L : jL) (Q : Option Value → jS → jL → Prop) : Prop := if x0 = (98 : Int32) then (Q (some (.int (3 : Int32))) I L) else (if x0 = (109 : Int32) then (Q (some (.int (5 : Int32))) I L) else (if x0 = (112 : Int32) then (Q (some (.int (2 : Int32))) I L) else (if x0 = (115 : Int32) then (Q (some (.int (4 : Int32))) I L) else (if x0 = (116 : Int32) then (Q (some (.int (1 : Int32))) I L) else (if x0 = (119 : Int32) then (Q (some (.int (0 : Int32))) I L) else (Q (some (.int (-1 : Int32))) I L))))))
set_option maxRecDepth 100000 in
set_option maxHeartbeats 4000000 in
theorem wX12_nameOf_ok {G : jG} {l : Launch} {d : Nat} {Q : Option Value → jS → jL → Prop} {x0 : Int32} {I : jS} {L : jL} (h : wX12_nameOf G l d x0 I L Q) : cM G l mX12_nameOf (d + 1) [.int x0] I L Q := by
  rw [wX12_nameOf] at h
  show jCall G l yX12_nameOf cX12_nameOf 1 (some .int) (d + 1) 0 0 _ (jKS, I, L, jR0) _
  refine jCall_of (n0 := 0) (ls := [some (.int x0)]) (by decide +kernel) rfl (Nat.le_of_ble_eq_true rfl) (jQm_of ?_)
  refine jr_iload_n dX12_nameOf_0 rfl rfl ?_
  by_cases c : x0 = (98 : Int32)
  · rw [if_pos c] at h
    refine jr_lookup dX12_nameOf_1 (by decide) (off := 65) (jlk c (by decide)) (tgt := 66) (by decide) ?_
    refine jr_iconst dX12_nameOf_66 kic_3 ?_
    exact jr_ireturn dX12_nameOf_67 ⟨Or.inr (Or.inl ⟨rfl, _, rfl⟩), _, _, rfl, h⟩
  · rw [if_neg c] at h
    have c98 := c
    by_cases c : x0 = (109 : Int32)
    · rw [if_pos c] at h
      refine jr_lookup dX12_nameOf_1 (by decide) (off := 69) (jlk c (by decide)) (tgt := 70) (by decide) ?_
      refine jr_iconst dX12_nameOf_70 kic_5 ?_
      exact jr_ireturn dX12_nameOf_71 ⟨Or.inr (Or.inl ⟨rfl, _, rfl⟩), _, _, rfl, h⟩
    · rw [if_neg c] at h
      have c109 := c
      by_cases c : x0 = (112 : Int32)
      · rw [if_pos c] at h
        refine jr_lookup dX12_nameOf_1 (by decide) (off := 63) (jlk c (by decide)) (tgt := 64) (by decide) ?_
        refine jr_iconst dX12_nameOf_64 kic_2 ?_
        exact jr_ireturn dX12_nameOf_65 ⟨Or.inr (Or.inl ⟨rfl, _, rfl⟩), _, _, rfl, h⟩
      · rw [if_neg c] at h
        have c112 := c
        by_cases c : x0 = (115 : Int32)
        · rw [if_pos c] at h
          refine jr_lookup dX12_nameOf_1 (by decide) (off := 67) (jlk c (by decide)) (tgt := 68) (by decide) ?_
          refine jr_iconst dX12_nameOf_68 kic_4 ?_
          exact jr_ireturn dX12_nameOf_69 ⟨Or.inr (Or.inl ⟨rfl, _, rfl⟩), _, _, rfl, h⟩
        · rw [if_neg c] at h
          have c115 := c
          by_cases c : x0 = (116 : Int32)
          · rw [if_pos c] at h
            refine jr_lookup dX12_nameOf_1 (by decide) (off := 61) (jlk c (by decide)) (tgt := 62) (by decide) ?_
            refine jr_iconst dX12_nameOf_62 kic_1 ?_
            exact jr_ireturn dX12_nameOf_63 ⟨Or.inr (Or.inl ⟨rfl, _, rfl⟩), _, _, rfl, h⟩
          · rw [if_neg c] at h
            have c116 := c
            by_cases c : x0 = (119 : Int32)
            · rw [if_pos c] at h
              refine jr_lookup dX12_nameOf_1 (by decide) (off := 59) (jlk c (by decide)) (tgt := 60) (by decide) ?_
              refine jr_iconst dX12_nameOf_60 kic_0 ?_
              exact jr_ireturn dX12_nameOf_61 ⟨Or.inr (Or.inl ⟨rfl, _, rfl⟩), _, _, rfl, h⟩
            · rw [if_neg c] at h
              have c119 := c
              refine jr_lookup dX12_nameOf_1 (by decide) (off := 71) (by rw [lv_osw c98 (a := 98) rfl, lv_osw c109 (a := 109) rfl, lv_osw c112 (a := 112) rfl, lv_osw c115 (a := 115) rfl, lv_osw c116 (a := 116) rfl, lv_osw c119 (a := 119) rfl]; rfl) (tgt := 72) (by decide) ?_
              refine jr_iconst dX12_nameOf_72 kic_m1 ?_
              exact jr_ireturn dX12_nameOf_73 ⟨Or.inr (Or.inl ⟨rfl, _, rfl⟩), _, _, rfl, h⟩

def wX7_has (G : jG) (l : Launch) (d : Nat) (x1 : Int32) (x2 : Int32) (I : jS) (L : jL) (Q : Option Value → jS → jL → Prop) : Prop := if x2 < 0 then (Q (some (.int (0 : Int32))) I L) else (if (8 : Int32) < x2 then (Q (some (.int (0 : Int32))) I L) else (if 0 ≤ x1 then (if (3 : Int32) < x2 then (if (7 : Int32) < x2 then (if x1 = 0 then (Q (some (.int (1 : Int32))) I L) else (Q (some (.int (0 : Int32))) I L)) else (if (I 1 1) ≤ x1 then (Q (some (.int (0 : Int32))) I L) else (Q (some (.int (1 : Int32))) I L))) else (if (24 : Int32) ≤ x1 then (Q (some (.int (0 : Int32))) I L) else (Q (some (.int (1 : Int32))) I L))) else (Q (some (.int (0 : Int32))) I L)))
set_option maxRecDepth 100000 in
set_option maxHeartbeats 4000000 in
theorem wX7_has_ok {G : jG} {l : Launch} {d : Nat} {Q : Option Value → jS → jL → Prop} {x1 : Int32} {x2 : Int32} {I : jS} {L : jL} (h : wX7_has G l d x1 x2 I L Q) : cM G l mX7_has (d + 1) [.ref 1, .int x1, .int x2] I L Q := by
  rw [wX7_has] at h
  show jCall G l yX7_has cX7_has 3 (some .boolean) (d + 1) 0 0 _ (jKS, I, L, jR0) _
  refine jCall_of (n0 := 0) (ls := [some (.ref 1), some (.int x1), some (.int x2)]) (by decide +kernel) rfl (Nat.le_of_ble_eq_true rfl) (jQm_of ?_)
  refine jr_iload_n dX7_has_0 rfl rfl ?_
  refine jr_if_lt dX7_has_1 (tgt := 14) (by decide) (fun c => ?_) (fun c => ?_)
  · rw [if_pos c] at h
    refine jr_iconst dX7_has_14 kic_0 ?_
    exact jr_ireturn dX7_has_15 ⟨Or.inr (Or.inr (Or.inr ⟨rfl, Or.inl rfl⟩)), _, _, rfl, h⟩
  · rw [if_neg c] at h
    refine jr_iload_n dX7_has_4 rfl rfl ?_
    refine jr_bipush dX7_has_5 kbp_8 ?_
    refine jr_icmp_gt dX7_has_7 (tgt := 14) (by decide) (fun c => ?_) (fun c => ?_)
    · rw [if_pos c] at h
      refine jr_iconst dX7_has_14 kic_0 ?_
      exact jr_ireturn dX7_has_15 ⟨Or.inr (Or.inr (Or.inr ⟨rfl, Or.inl rfl⟩)), _, _, rfl, h⟩
    · rw [if_neg c] at h
      refine jr_iload_n dX7_has_10 rfl rfl ?_
      refine jr_if_ge dX7_has_11 (tgt := 16) (by decide) (fun c => ?_) (fun c => ?_)
      · rw [if_pos c] at h
        refine jr_iload_n dX7_has_16 rfl rfl ?_
        refine jr_iconst dX7_has_17 kic_3 ?_
        refine jr_icmp_gt dX7_has_18 (tgt := 33) (by decide) (fun c => ?_) (fun c => ?_)
        · rw [if_pos c] at h
          refine jr_iload_n dX7_has_33 rfl rfl ?_
          refine jr_bipush dX7_has_34 kbp_7 ?_
          refine jr_icmp_gt dX7_has_36 (tgt := 55) (by decide) (fun c => ?_) (fun c => ?_)
          · rw [if_pos c] at h
            refine jr_iload_n dX7_has_55 rfl rfl ?_
            refine jr_if_ne dX7_has_56 (tgt := 63) (by decide) (fun c => ?_) (fun c => ?_)
            · rw [if_neg c] at h
              refine jr_iconst dX7_has_63 kic_0 ?_
              exact jr_ireturn dX7_has_64 ⟨Or.inr (Or.inr (Or.inr ⟨rfl, Or.inl rfl⟩)), _, _, rfl, h⟩
            · rw [if_pos c] at h
              refine jr_iconst dX7_has_59 kic_1 ?_
              refine jr_goto dX7_has_60 (tgt := 64) (by decide) ?_
              exact jr_ireturn dX7_has_64 ⟨Or.inr (Or.inr (Or.inr ⟨rfl, Or.inr rfl⟩)), _, _, rfl, h⟩
          · rw [if_neg c] at h
            refine jr_iload_n dX7_has_39 rfl rfl ?_
            refine jr_aload_n dX7_has_40 rfl rfl ?_
            refine jv_geti rfl ff_X7_26 ks_1 dX7_has_41 ?_
            refine jr_icmp_ge dX7_has_44 (tgt := 51) (by decide) (fun c => ?_) (fun c => ?_)
            · rw [if_pos c] at h
              refine jr_iconst dX7_has_51 kic_0 ?_
              refine jr_goto dX7_has_52 (tgt := 64) (by decide) ?_
              exact jr_ireturn dX7_has_64 ⟨Or.inr (Or.inr (Or.inr ⟨rfl, Or.inl rfl⟩)), _, _, rfl, h⟩
            · rw [if_neg c] at h
              refine jr_iconst dX7_has_47 kic_1 ?_
              refine jr_goto dX7_has_48 (tgt := 64) (by decide) ?_
              exact jr_ireturn dX7_has_64 ⟨Or.inr (Or.inr (Or.inr ⟨rfl, Or.inr rfl⟩)), _, _, rfl, h⟩
        · rw [if_neg c] at h
          refine jr_iload_n dX7_has_21 rfl rfl ?_
          refine jr_bipush dX7_has_22 kbp_24 ?_
          refine jr_icmp_ge dX7_has_24 (tgt := 31) (by decide) (fun c => ?_) (fun c => ?_)
          · rw [if_pos c] at h
            refine jr_iconst dX7_has_31 kic_0 ?_
            exact jr_ireturn dX7_has_32 ⟨Or.inr (Or.inr (Or.inr ⟨rfl, Or.inl rfl⟩)), _, _, rfl, h⟩
          · rw [if_neg c] at h
            refine jr_iconst dX7_has_27 kic_1 ?_
            refine jr_goto dX7_has_28 (tgt := 32) (by decide) ?_
            exact jr_ireturn dX7_has_32 ⟨Or.inr (Or.inr (Or.inr ⟨rfl, Or.inr rfl⟩)), _, _, rfl, h⟩
      · rw [if_neg c] at h
        refine jr_iconst dX7_has_14 kic_0 ?_
        exact jr_ireturn dX7_has_15 ⟨Or.inr (Or.inr (Or.inr ⟨rfl, Or.inl rfl⟩)), _, _, rfl, h⟩
def wX7_allows (G : jG) (l : Launch) (d : Nat) (x1 : Int32) (x2 : Int32) (I : jS) (L : jL) (Q : Option Value → jS → jL → Prop) : Prop := if x1 < 0 then (Q (some (.int (0 : Int32))) I L) else (if (8 : Int32) < x1 then (Q (some (.int (0 : Int32))) I L) else (vp_in x1 (G.2.2.2.2 2).1 ∧ (if x2 < ((G.2.2.2.2 2).2 x1.toNatClampNeg) then (Q (some (.int (0 : Int32))) I L) else (vp_in x1 (G.2.2.2.2 3).1 ∧ (if ((G.2.2.2.2 3).2 x1.toNatClampNeg) < x2 then (Q (some (.int (0 : Int32))) I L) else (Q (some (.int (1 : Int32))) I L))))))
set_option maxRecDepth 100000 in
set_option maxHeartbeats 4000000 in
theorem wX7_allows_ok {G : jG} {l : Launch} {d : Nat} {Q : Option Value → jS → jL → Prop} {x1 : Int32} {x2 : Int32} {I : jS} {L : jL} (h : wX7_allows G l d x1 x2 I L Q) : cM G l mX7_allows (d + 1) [.ref 1, .int x1, .int x2] I L Q := by
  rw [wX7_allows] at h
  show jCall G l yX7_allows cX7_allows 3 (some .boolean) (d + 1) 0 0 _ (jKS, I, L, jR0) _
  refine jCall_of (n0 := 0) (ls := [some (.ref 1), some (.int x1), some (.int x2)]) (by decide +kernel) rfl (Nat.le_of_ble_eq_true rfl) (jQm_of ?_)
  refine jr_iload_n dX7_allows_0 rfl rfl ?_
  refine jr_if_lt dX7_allows_1 (tgt := 32) (by decide) (fun c => ?_) (fun c => ?_)
  · rw [if_pos c] at h
    refine jr_iconst dX7_allows_32 kic_0 ?_
    exact jr_ireturn dX7_allows_33 ⟨Or.inr (Or.inr (Or.inr ⟨rfl, Or.inl rfl⟩)), _, _, rfl, h⟩
  · rw [if_neg c] at h
    refine jr_iload_n dX7_allows_4 rfl rfl ?_
    refine jr_bipush dX7_allows_5 kbp_8 ?_
    refine jr_icmp_gt dX7_allows_7 (tgt := 32) (by decide) (fun c => ?_) (fun c => ?_)
    · rw [if_pos c] at h
      refine jr_iconst dX7_allows_32 kic_0 ?_
      exact jr_ireturn dX7_allows_33 ⟨Or.inr (Or.inr (Or.inr ⟨rfl, Or.inl rfl⟩)), _, _, rfl, h⟩
    · rw [if_neg c] at h
      refine jr_iload_n dX7_allows_10 rfl rfl ?_
      refine jr_getstatic (r := 1002) (by decide +kernel) fs_X7_30 dX7_allows_11 ?_
      refine jr_iload_n dX7_allows_14 rfl rfl ?_
      obtain ⟨g1, h⟩ := h
      refine jr_oaload rfl (r := 2) (by decide) dX7_allows_15 g1 ?_
      refine jr_icmp_lt dX7_allows_16 (tgt := 32) (by decide) (fun c => ?_) (fun c => ?_)
      · rw [if_pos c] at h
        refine jr_iconst dX7_allows_32 kic_0 ?_
        exact jr_ireturn dX7_allows_33 ⟨Or.inr (Or.inr (Or.inr ⟨rfl, Or.inl rfl⟩)), _, _, rfl, h⟩
      · rw [if_neg c] at h
        refine jr_iload_n dX7_allows_19 rfl rfl ?_
        refine jr_getstatic (r := 1003) (by decide +kernel) fs_X7_33 dX7_allows_20 ?_
        refine jr_iload_n dX7_allows_23 rfl rfl ?_
        obtain ⟨g2, h⟩ := h
        refine jr_oaload rfl (r := 3) (by decide) dX7_allows_24 g2 ?_
        refine jr_icmp_gt dX7_allows_25 (tgt := 32) (by decide) (fun c => ?_) (fun c => ?_)
        · rw [if_pos c] at h
          refine jr_iconst dX7_allows_32 kic_0 ?_
          exact jr_ireturn dX7_allows_33 ⟨Or.inr (Or.inr (Or.inr ⟨rfl, Or.inl rfl⟩)), _, _, rfl, h⟩
        · rw [if_neg c] at h
          refine jr_iconst dX7_allows_28 kic_1 ?_
          refine jr_goto dX7_allows_29 (tgt := 33) (by decide) ?_
          exact jr_ireturn dX7_allows_33 ⟨Or.inr (Or.inr (Or.inr ⟨rfl, Or.inr rfl⟩)), _, _, rfl, h⟩
def wX7_get_25 (G : jG) (l : Launch) (d : Nat) (Q : Option Value → jS → jL → Prop) (x1 : Int32) (x2 : Int32) (t0 : Int32) (I : jS) (L : jL) : Prop := if t0 = 0 then (Q (some (.int (0 : Int32))) I L) else (vp_in x2 9 ∧ (vp_in x1 24 ∧ (Q (some (.int (I (3 + x2.toNatClampNeg) x1.toNatClampNeg))) I L)))
set_option maxRecDepth 100000 in
set_option maxHeartbeats 4000000 in
theorem wX7_get_25_ok {G : jG} {l : Launch} {d : Nat} {Q : Option Value → jS → jL → Prop} : ∀ (x1 : Int32) (x2 : Int32) (t0 : Int32) (I : jS) (L : jL), wX7_get_25 G l d Q x1 x2 t0 I L → J G l yX7_get cX7_get 4 (d + 1) 0 0 25 [some (.ref 1), some (.int x1), some (.int x2), none] [.int t0] (jKS, I, L, jR0) (jQm (some .int) Q) := by
  intro x1 x2 t0 I L h
  rw [wX7_get_25] at h
  refine jr_istore_n dX7_get_25 rfl (by decide) rfl ?_
  refine jr_iload_n dX7_get_26 rfl rfl ?_
  refine jr_if_eq dX7_get_27 (tgt := 41) (by decide) (fun c => ?_) (fun c => ?_)
  · rw [if_pos c] at h
    refine jr_iconst dX7_get_41 kic_0 ?_
    exact jr_ireturn dX7_get_42 ⟨Or.inr (Or.inl ⟨rfl, _, rfl⟩), _, _, rfl, h⟩
  · rw [if_neg c] at h
    refine jr_aload_n dX7_get_30 rfl rfl ?_
    refine jr_geta ff_X7_11 ks_1 rr_1_0 dX7_get_31 ?_
    refine jr_iload_n dX7_get_34 rfl rfl ?_
    obtain ⟨g1, h⟩ := h
    refine jr_aaload_i rfl ks_2 dX7_get_35 g1 (rr_row2 (jlt g1)) ?_
    refine jr_iload_n dX7_get_36 rfl rfl ?_
    obtain ⟨g2, h⟩ := h
    refine jv_iaload rfl rfl (ks_row2 (jlt g1)) dX7_get_37 g2 ?_
    refine jr_goto dX7_get_38 (tgt := 42) (by decide) ?_
    exact jr_ireturn dX7_get_42 ⟨Or.inr (Or.inl ⟨rfl, _, rfl⟩), _, _, rfl, h⟩
def wX7_get_24 (G : jG) (l : Launch) (d : Nat) (Q : Option Value → jS → jL → Prop) (x1 : Int32) (x2 : Int32) (I : jS) (L : jL) : Prop := wX7_get_25 G l d Q x1 x2 (0 : Int32) I L
set_option maxRecDepth 100000 in
set_option maxHeartbeats 4000000 in
theorem wX7_get_24_ok {G : jG} {l : Launch} {d : Nat} {Q : Option Value → jS → jL → Prop} : ∀ (x1 : Int32) (x2 : Int32) (I : jS) (L : jL), wX7_get_24 G l d Q x1 x2 I L → J G l yX7_get cX7_get 4 (d + 1) 0 0 24 [some (.ref 1), some (.int x1), some (.int x2), none] [] (jKS, I, L, jR0) (jQm (some .int) Q) := by
  intro x1 x2 I L h
  rw [wX7_get_24] at h
  refine jr_iconst dX7_get_24 kic_0 ?_
  exact J.sub (wX7_get_25_ok  _ _ _ _ _ h) (jsub_some (jsub_some (jsub_some (jsub_none jsub_nil))))
def wX7_get (G : jG) (l : Launch) (d : Nat) (x1 : Int32) (x2 : Int32) (I : jS) (L : jL) (Q : Option Value → jS → jL → Prop) : Prop := if x2 < 0 then (wX7_get_24 G l d Q x1 x2 I L) else (if (8 : Int32) < x2 then (wX7_get_24 G l d Q x1 x2 I L) else (if x1 < 0 then (wX7_get_24 G l d Q x1 x2 I L) else (if (24 : Int32) ≤ x1 then (wX7_get_24 G l d Q x1 x2 I L) else (wX7_get_25 G l d Q x1 x2 (1 : Int32) I L))))
set_option maxRecDepth 100000 in
set_option maxHeartbeats 4000000 in
theorem wX7_get_ok {G : jG} {l : Launch} {d : Nat} {Q : Option Value → jS → jL → Prop} {x1 : Int32} {x2 : Int32} {I : jS} {L : jL} (h : wX7_get G l d x1 x2 I L Q) : cM G l mX7_get (d + 1) [.ref 1, .int x1, .int x2] I L Q := by
  rw [wX7_get] at h
  show jCall G l yX7_get cX7_get 4 (some .int) (d + 1) 0 0 _ (jKS, I, L, jR0) _
  refine jCall_of (n0 := 1) (ls := [some (.ref 1), some (.int x1), some (.int x2), none]) (by decide +kernel) rfl (Nat.le_of_ble_eq_true rfl) (jQm_of ?_)
  refine jr_iload_n dX7_get_0 rfl rfl ?_
  refine jr_if_lt dX7_get_1 (tgt := 24) (by decide) (fun c => ?_) (fun c => ?_)
  · rw [if_pos c] at h
    exact J.sub (wX7_get_24_ok  _ _ _ _ h) (jsub_some (jsub_some (jsub_some (jsub_none jsub_nil))))
  · rw [if_neg c] at h
    refine jr_iload_n dX7_get_4 rfl rfl ?_
    refine jr_bipush dX7_get_5 kbp_8 ?_
    refine jr_icmp_gt dX7_get_7 (tgt := 24) (by decide) (fun c => ?_) (fun c => ?_)
    · rw [if_pos c] at h
      exact J.sub (wX7_get_24_ok  _ _ _ _ h) (jsub_some (jsub_some (jsub_some (jsub_none jsub_nil))))
    · rw [if_neg c] at h
      refine jr_iload_n dX7_get_10 rfl rfl ?_
      refine jr_if_lt dX7_get_11 (tgt := 24) (by decide) (fun c => ?_) (fun c => ?_)
      · rw [if_pos c] at h
        exact J.sub (wX7_get_24_ok  _ _ _ _ h) (jsub_some (jsub_some (jsub_some (jsub_none jsub_nil))))
      · rw [if_neg c] at h
        refine jr_iload_n dX7_get_14 rfl rfl ?_
        refine jr_bipush dX7_get_15 kbp_24 ?_
        refine jr_icmp_ge dX7_get_17 (tgt := 24) (by decide) (fun c => ?_) (fun c => ?_)
        · rw [if_pos c] at h
          exact J.sub (wX7_get_24_ok  _ _ _ _ h) (jsub_some (jsub_some (jsub_some (jsub_none jsub_nil))))
        · rw [if_neg c] at h
          refine jr_iconst dX7_get_20 kic_1 ?_
          refine jr_goto dX7_get_21 (tgt := 25) (by decide) ?_
          exact J.sub (wX7_get_25_ok  _ _ _ _ _ h) (jsub_some (jsub_some (jsub_some (jsub_none jsub_nil))))
def wX7_set (G : jG) (l : Launch) (d : Nat) (x1 : Int32) (x2 : Int32) (x3 : Int32) (I : jS) (L : jL) (Q : Option Value → jS → jL → Prop) : Prop := cI G l mX7_has d [.ref 1, .int x1, .int x2] I L (fun r1 I1 L1 => (if r1 = 0 then (Q none I1 L1) else (vp_in x2 9 ∧ (vp_in x1 24 ∧ (Q none (u2 I1 (3 + x2.toNatClampNeg) x1.toNatClampNeg x3) L1)))))
set_option maxRecDepth 100000 in
set_option maxHeartbeats 4000000 in
theorem wX7_set_ok {G : jG} {l : Launch} {d : Nat} {Q : Option Value → jS → jL → Prop} {x1 : Int32} {x2 : Int32} {x3 : Int32} {I : jS} {L : jL} (h : wX7_set G l d x1 x2 x3 I L Q) : cM G l mX7_set (d + 1) [.ref 1, .int x1, .int x2, .int x3] I L Q := by
  rw [wX7_set] at h
  show jCall G l yX7_set cX7_set 4 (none) (d + 1) 0 0 _ (jKS, I, L, jR0) _
  refine jCall_of (n0 := 0) (ls := [some (.ref 1), some (.int x1), some (.int x2), some (.int x3)]) (by decide +kernel) rfl (Nat.le_of_ble_eq_true rfl) (jQm_of ?_)
  refine jr_aload_n dX7_set_0 rfl rfl ?_
  refine jr_iload_n dX7_set_1 rfl rfl ?_
  refine jr_iload_n dX7_set_2 rfl rfl ?_
  refine jr_callV (mc2 := 0) (mc := 0) (ms2 := 0) (ms := 0) vm_X7_36 (av := [.int x1, .int x2]) (st := []) rfl rfl ks_1 (by decide) rfl (Nat.le_of_ble_eq_true rfl) dX7_set_3 (cI_use (M := (yX7_has, cX7_has, 3, some .boolean)) h ?_)
  intro r1 I1 L1 h
  refine jr_if_eq dX7_set_6 (tgt := 18) (by decide) (fun c => ?_) (fun c => ?_)
  · rw [if_pos c] at h
    exact jr_return dX7_set_18 ⟨Or.inl ⟨rfl, rfl⟩, _, _, rfl, h⟩
  · rw [if_neg c] at h
    refine jr_aload_n dX7_set_9 rfl rfl ?_
    refine jr_geta ff_X7_11 ks_1 rr_1_0 dX7_set_10 ?_
    refine jr_iload_n dX7_set_13 rfl rfl ?_
    obtain ⟨g2, h⟩ := h
    refine jr_aaload_i rfl ks_2 dX7_set_14 g2 (rr_row2 (jlt g2)) ?_
    refine jr_iload_n dX7_set_15 rfl rfl ?_
    refine jr_iload_n dX7_set_16 rfl rfl ?_
    obtain ⟨g3, h⟩ := h
    refine jr_iastore rfl (ks_row2 (jlt g2)) dX7_set_17 g3 ?_
    exact jr_return dX7_set_18 ⟨Or.inl ⟨rfl, rfl⟩, _, _, rfl, h⟩
def wX7_add (G : jG) (l : Launch) (d : Nat) (x1 : Int32) (x2 : Int32) (x3 : Int32) (I : jS) (L : jL) (Q : Option Value → jS → jL → Prop) : Prop := if (I 1 1) < (7 : Int32) then (cV G l mX7_set d [.ref 1, .int (I 1 1), .int (4 : Int32), .int x1] (u2 I 1 1 ((I 1 1) + (1 : Int32))) L (fun I1 L1 => (cV G l mX7_set d [.ref 1, .int (I 1 1), .int (6 : Int32), .int x2] I1 L1 (fun I2 L2 => (cV G l mX7_set d [.ref 1, .int (I 1 1), .int (7 : Int32), .int x3] I2 L2 (fun I3 L3 => (Q (some (.int (I 1 1))) I3 L3))))))) else (Q (some (.int (-3 : Int32))) I L)
set_option maxRecDepth 100000 in
set_option maxHeartbeats 4000000 in
theorem wX7_add_ok {G : jG} {l : Launch} {d : Nat} {Q : Option Value → jS → jL → Prop} {x1 : Int32} {x2 : Int32} {x3 : Int32} {I : jS} {L : jL} (h : wX7_add G l d x1 x2 x3 I L Q) : cM G l mX7_add (d + 1) [.ref 1, .int x1, .int x2, .int x3] I L Q := by
  rw [wX7_add] at h
  show jCall G l yX7_add cX7_add 5 (some .int) (d + 1) 0 0 _ (jKS, I, L, jR0) _
  refine jCall_of (n0 := 1) (ls := [some (.ref 1), some (.int x1), some (.int x2), some (.int x3), none]) (by decide +kernel) rfl (Nat.le_of_ble_eq_true rfl) (jQm_of ?_)
  refine jr_aload_n dX7_add_0 rfl rfl ?_
  refine jv_geti rfl ff_X7_26 ks_1 dX7_add_1 ?_
  refine jr_bipush dX7_add_4 kbp_7 ?_
  refine jr_icmp_lt dX7_add_6 (tgt := 12) (by decide) (fun c => ?_) (fun c => ?_)
  · rw [if_pos c] at h
    refine jr_aload_n dX7_add_12 rfl rfl ?_
    refine jv_geti rfl ff_X7_26 ks_1 dX7_add_13 ?_
    refine jr_istore dX7_add_16 (by decide) rfl ?_
    refine jr_aload_n dX7_add_18 rfl rfl ?_
    refine jr_dup dX7_add_19 rfl ?_
    refine jv_geti rfl ff_X7_26 ks_1 dX7_add_20 ?_
    refine jr_iconst dX7_add_23 kic_1 ?_
    refine jr_iadd dX7_add_24 ?_
    refine jr_puti ff_X7_26 ks_1 dX7_add_25 ?_
    refine jr_aload_n dX7_add_28 rfl rfl ?_
    refine jr_iload dX7_add_29 rfl ?_
    refine jr_iconst dX7_add_31 kic_4 ?_
    refine jr_iload_n dX7_add_32 rfl rfl ?_
    refine jr_callV (mc2 := 0) (mc := 0) (ms2 := 0) (ms := 0) vm_X7_40 (av := [.int (I 1 1), .int (4 : Int32), .int x1]) (st := []) rfl rfl ks_1 (by decide) rfl (Nat.le_of_ble_eq_true rfl) dX7_add_33 (cV_use (M := (yX7_set, cX7_set, 4, none)) h ?_)
    intro I1 L1 h
    refine jr_aload_n dX7_add_36 rfl rfl ?_
    refine jr_iload dX7_add_37 rfl ?_
    refine jr_bipush dX7_add_39 kbp_6 ?_
    refine jr_iload_n dX7_add_41 rfl rfl ?_
    refine jr_callV (mc2 := 0) (mc := 0) (ms2 := 0) (ms := 0) vm_X7_40 (av := [.int (I 1 1), .int (6 : Int32), .int x2]) (st := []) rfl rfl ks_1 (by decide) rfl (Nat.le_of_ble_eq_true rfl) dX7_add_42 (cV_use (M := (yX7_set, cX7_set, 4, none)) h ?_)
    intro I2 L2 h
    refine jr_aload_n dX7_add_45 rfl rfl ?_
    refine jr_iload dX7_add_46 rfl ?_
    refine jr_bipush dX7_add_48 kbp_7 ?_
    refine jr_iload_n dX7_add_50 rfl rfl ?_
    refine jr_callV (mc2 := 0) (mc := 0) (ms2 := 0) (ms := 0) vm_X7_40 (av := [.int (I 1 1), .int (7 : Int32), .int x3]) (st := []) rfl rfl ks_1 (by decide) rfl (Nat.le_of_ble_eq_true rfl) dX7_add_51 (cV_use (M := (yX7_set, cX7_set, 4, none)) h ?_)
    intro I3 L3 h
    refine jr_iload dX7_add_54 rfl ?_
    exact jr_ireturn dX7_add_56 ⟨Or.inr (Or.inl ⟨rfl, _, rfl⟩), _, _, rfl, h⟩
  · rw [if_neg c] at h
    refine jr_bipush dX7_add_9 kbp_m3 ?_
    exact jr_ireturn dX7_add_11 ⟨Or.inr (Or.inl ⟨rfl, _, rfl⟩), _, _, rfl, h⟩

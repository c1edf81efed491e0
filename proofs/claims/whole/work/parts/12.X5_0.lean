def wX5_clearWay_10 (G : jG) (l : Launch) (d : Nat) (ic0 : Nat) (Q : Option Value → jS → jL → Prop) : Nat → Int32 → Int32 → jS → jL → Prop
  | 0, _, _, _, _ => False
  | n10 + 1, x1, x2, I, L => if (8 : Int32) ≤ x2 then (Q none I L) else (vp_in ((x1 * (8 : Int32)) + x2) 24 ∧ ((wX5_clearWay_10 G l d ic0 Q n10) x1 (x2 + (1 : Int32)) (u2 I (ic0 + 2) (((x1 * (8 : Int32)) + x2).toNatClampNeg) (0 : Int32)) L))
set_option maxRecDepth 100000 in
set_option maxHeartbeats 4000000 in
theorem wX5_clearWay_10_ok {G : jG} {l : Launch} {d : Nat} {ic0 : Nat} {Q : Option Value → jS → jL → Prop} (hic0 : isIce ic0) : ∀ (n : Nat) (x1 : Int32) (x2 : Int32) (I : jS) (L : jL), wX5_clearWay_10 G l d ic0 Q n x1 x2 I L → J G l yX5_clearWay cX5_clearWay 3 (d + 1) 0 0 10 [some (.ref ic0), some (.int x1), some (.int x2)] [] (jKS, I, L, jR0) (jQm (none) Q) := by
  intro n
  induction n with
  | zero => intro x1 x2 I L h; exact h.elim
  | succ n ih =>
    intro x1 x2 I L h
    rw [wX5_clearWay_10] at h
    refine jr_iload_n dX5_clearWay_10 rfl rfl ?_
    refine jr_bipush dX5_clearWay_11 kbp_8 ?_
    refine jr_icmp_ge dX5_clearWay_13 (tgt := 34) (by decide) (fun c => ?_) (fun c => ?_)
    · rw [if_pos c] at h
      exact jr_return dX5_clearWay_34 ⟨Or.inl ⟨rfl, rfl⟩, _, _, rfl, h⟩
    · rw [if_neg c] at h
      refine jr_aload_n dX5_clearWay_16 rfl rfl ?_
      refine jr_geta ff_X5_15 (ks_ice0 hic0) (rr_ice1 hic0) dX5_clearWay_17 ?_
      refine jr_iload_n dX5_clearWay_20 rfl rfl ?_
      refine jr_bipush dX5_clearWay_21 kbp_8 ?_
      refine jr_imul dX5_clearWay_23 ?_
      refine jr_iload_n dX5_clearWay_24 rfl rfl ?_
      refine jr_iadd dX5_clearWay_25 ?_
      refine jr_iconst dX5_clearWay_26 kic_0 ?_
      obtain ⟨g1, h⟩ := h
      refine jr_iastore rfl (ks_ice2 hic0) dX5_clearWay_27 g1 ?_
      refine jr_iinc dX5_clearWay_28 rfl (by rw [kic_1]) (by decide) rfl ?_
      refine jr_goto dX5_clearWay_31 (tgt := 10) (by decide) ?_
      exact J.sub (ih _ _ _ _ h) (jsub_some (jsub_some (jsub_some jsub_nil)))
def wX5_clearWay (G : jG) (l : Launch) (d : Nat) (ic0 : Nat) (x1 : Int32) (I : jS) (L : jL) (Q : Option Value → jS → jL → Prop) : Prop := cI G l mX11_isWay d [.int x1] I L (fun r1 I1 L1 => (if r1 = 0 then (Q none I1 L1) else (∃ e10 : Nat, wX5_clearWay_10 G l d ic0 Q e10 x1 (0 : Int32) I1 L1)))
set_option maxRecDepth 100000 in
set_option maxHeartbeats 4000000 in
theorem wX5_clearWay_ok {G : jG} {l : Launch} {d : Nat} {ic0 : Nat} {Q : Option Value → jS → jL → Prop} (hic0 : isIce ic0) {x1 : Int32} {I : jS} {L : jL} (h : wX5_clearWay G l d ic0 x1 I L Q) : cM G l mX5_clearWay (d + 1) [.ref ic0, .int x1] I L Q := by
  rw [wX5_clearWay] at h
  show jCall G l yX5_clearWay cX5_clearWay 3 (none) (d + 1) 0 0 _ (jKS, I, L, jR0) _
  refine jCall_of (n0 := 1) (ls := [some (.ref ic0), some (.int x1), none]) (by decide +kernel) rfl (Nat.le_of_ble_eq_true rfl) (jQm_of ?_)
  refine jr_iload_n dX5_clearWay_0 rfl rfl ?_
  refine jr_callSN (mc2 := 0) (mc := 0) (ms2 := 0) (ms := 0) vm_X5_22 (av := [.int x1]) (st := []) rfl rfl (Nat.le_of_ble_eq_true rfl) dX5_clearWay_1 (cI_use (M := (yX11_isWay, cX11_isWay, 1, some .boolean)) h ?_)
  intro r1 I1 L1 h
  refine jr_if_ne dX5_clearWay_4 (tgt := 8) (by decide) (fun c => ?_) (fun c => ?_)
  · rw [if_neg c] at h
    refine jr_iconst dX5_clearWay_8 kic_0 ?_
    refine jr_istore_n dX5_clearWay_9 rfl (by decide) rfl ?_
    obtain ⟨e10, h⟩ := h
    exact J.sub (wX5_clearWay_10_ok hic0 e10 _ _ _ _ h) (jsub_some (jsub_some (jsub_some jsub_nil)))
  · rw [if_pos c] at h
    exact jr_return dX5_clearWay_7 ⟨Or.inl ⟨rfl, rfl⟩, _, _, rfl, h⟩
def wX5_levelWay_10 (G : jG) (l : Launch) (d : Nat) (ic0 : Nat) (Q : Option Value → jS → jL → Prop) : Nat → Int32 → Int32 → Int32 → jS → jL → Prop
  | 0, _, _, _, _, _ => False
  | n10 + 1, x1, x2, x3, I, L => if (8 : Int32) ≤ x3 then (Q none I L) else (vp_in ((x1 * (8 : Int32)) + x3) 24 ∧ ((wX5_levelWay_10 G l d ic0 Q n10) x1 x2 (x3 + (1 : Int32)) (u2 I (ic0 + 1) (((x1 * (8 : Int32)) + x3).toNatClampNeg) x2) L))
set_option maxRecDepth 100000 in
set_option maxHeartbeats 4000000 in
theorem wX5_levelWay_10_ok {G : jG} {l : Launch} {d : Nat} {ic0 : Nat} {Q : Option Value → jS → jL → Prop} (hic0 : isIce ic0) : ∀ (n : Nat) (x1 : Int32) (x2 : Int32) (x3 : Int32) (I : jS) (L : jL), wX5_levelWay_10 G l d ic0 Q n x1 x2 x3 I L → J G l yX5_levelWay cX5_levelWay 4 (d + 1) 0 0 10 [some (.ref ic0), some (.int x1), some (.int x2), some (.int x3)] [] (jKS, I, L, jR0) (jQm (none) Q) := by
  intro n
  induction n with
  | zero => intro x1 x2 x3 I L h; exact h.elim
  | succ n ih =>
    intro x1 x2 x3 I L h
    rw [wX5_levelWay_10] at h
    refine jr_iload_n dX5_levelWay_10 rfl rfl ?_
    refine jr_bipush dX5_levelWay_11 kbp_8 ?_
    refine jr_icmp_ge dX5_levelWay_13 (tgt := 34) (by decide) (fun c => ?_) (fun c => ?_)
    · rw [if_pos c] at h
      exact jr_return dX5_levelWay_34 ⟨Or.inl ⟨rfl, rfl⟩, _, _, rfl, h⟩
    · rw [if_neg c] at h
      refine jr_aload_n dX5_levelWay_16 rfl rfl ?_
      refine jr_geta ff_X5_9 (ks_ice0 hic0) (rr_ice0 hic0) dX5_levelWay_17 ?_
      refine jr_iload_n dX5_levelWay_20 rfl rfl ?_
      refine jr_bipush dX5_levelWay_21 kbp_8 ?_
      refine jr_imul dX5_levelWay_23 ?_
      refine jr_iload_n dX5_levelWay_24 rfl rfl ?_
      refine jr_iadd dX5_levelWay_25 ?_
      refine jr_iload_n dX5_levelWay_26 rfl rfl ?_
      obtain ⟨g1, h⟩ := h
      refine jr_iastore rfl (ks_ice1 hic0) dX5_levelWay_27 g1 ?_
      refine jr_iinc dX5_levelWay_28 rfl (by rw [kic_1]) (by decide) rfl ?_
      refine jr_goto dX5_levelWay_31 (tgt := 10) (by decide) ?_
      exact J.sub (ih _ _ _ _ _ h) (jsub_some (jsub_some (jsub_some (jsub_some jsub_nil))))
def wX5_levelWay (G : jG) (l : Launch) (d : Nat) (ic0 : Nat) (x1 : Int32) (x2 : Int32) (I : jS) (L : jL) (Q : Option Value → jS → jL → Prop) : Prop := cI G l mX11_isWay d [.int x1] I L (fun r1 I1 L1 => (if r1 = 0 then (Q none I1 L1) else (∃ e10 : Nat, wX5_levelWay_10 G l d ic0 Q e10 x1 x2 (0 : Int32) I1 L1)))
set_option maxRecDepth 100000 in
set_option maxHeartbeats 4000000 in
theorem wX5_levelWay_ok {G : jG} {l : Launch} {d : Nat} {ic0 : Nat} {Q : Option Value → jS → jL → Prop} (hic0 : isIce ic0) {x1 : Int32} {x2 : Int32} {I : jS} {L : jL} (h : wX5_levelWay G l d ic0 x1 x2 I L Q) : cM G l mX5_levelWay (d + 1) [.ref ic0, .int x1, .int x2] I L Q := by
  rw [wX5_levelWay] at h
  show jCall G l yX5_levelWay cX5_levelWay 4 (none) (d + 1) 0 0 _ (jKS, I, L, jR0) _
  refine jCall_of (n0 := 1) (ls := [some (.ref ic0), some (.int x1), some (.int x2), none]) (by decide +kernel) rfl (Nat.le_of_ble_eq_true rfl) (jQm_of ?_)
  refine jr_iload_n dX5_levelWay_0 rfl rfl ?_
  refine jr_callSN (mc2 := 0) (mc := 0) (ms2 := 0) (ms := 0) vm_X5_22 (av := [.int x1]) (st := []) rfl rfl (Nat.le_of_ble_eq_true rfl) dX5_levelWay_1 (cI_use (M := (yX11_isWay, cX11_isWay, 1, some .boolean)) h ?_)
  intro r1 I1 L1 h
  refine jr_if_ne dX5_levelWay_4 (tgt := 8) (by decide) (fun c => ?_) (fun c => ?_)
  · rw [if_neg c] at h
    refine jr_iconst dX5_levelWay_8 kic_0 ?_
    refine jr_istore_n dX5_levelWay_9 rfl (by decide) rfl ?_
    obtain ⟨e10, h⟩ := h
    exact J.sub (wX5_levelWay_10_ok hic0 e10 _ _ _ _ _ h) (jsub_some (jsub_some (jsub_some (jsub_some jsub_nil))))
  · rw [if_pos c] at h
    exact jr_return dX5_levelWay_7 ⟨Or.inl ⟨rfl, rfl⟩, _, _, rfl, h⟩
def wX5_weakOn (G : jG) (l : Launch) (d : Nat) (ic0 : Nat) (x1 : Int32) (I : jS) (L : jL) (Q : Option Value → jS → jL → Prop) : Prop := cI G l mX11_isSquare d [.int x1] I L (fun r1 I1 L1 => (if r1 = 0 then (Q (some (.int (0 : Int32))) I1 L1) else (vp_in x1 24 ∧ (Q (some (.int (I1 (ic0 + 2) x1.toNatClampNeg))) I1 L1))))
set_option maxRecDepth 100000 in
set_option maxHeartbeats 4000000 in
theorem wX5_weakOn_ok {G : jG} {l : Launch} {d : Nat} {ic0 : Nat} {Q : Option Value → jS → jL → Prop} (hic0 : isIce ic0) {x1 : Int32} {I : jS} {L : jL} (h : wX5_weakOn G l d ic0 x1 I L Q) : cM G l mX5_weakOn (d + 1) [.ref ic0, .int x1] I L Q := by
  rw [wX5_weakOn] at h
  show jCall G l yX5_weakOn cX5_weakOn 2 (some .int) (d + 1) 0 0 _ (jKS, I, L, jR0) _
  refine jCall_of (n0 := 0) (ls := [some (.ref ic0), some (.int x1)]) (by decide +kernel) rfl (Nat.le_of_ble_eq_true rfl) (jQm_of ?_)
  refine jr_iload_n dX5_weakOn_0 rfl rfl ?_
  refine jr_callSN (mc2 := 0) (mc := 0) (ms2 := 0) (ms := 0) vm_X5_26 (av := [.int x1]) (st := []) rfl rfl (Nat.le_of_ble_eq_true rfl) dX5_weakOn_1 (cI_use (M := (yX11_isSquare, cX11_isSquare, 1, some .boolean)) h ?_)
  intro r1 I1 L1 h
  refine jr_if_eq dX5_weakOn_4 (tgt := 16) (by decide) (fun c => ?_) (fun c => ?_)
  · rw [if_pos c] at h
    refine jr_iconst dX5_weakOn_16 kic_0 ?_
    exact jr_ireturn dX5_weakOn_17 ⟨Or.inr (Or.inl ⟨rfl, _, rfl⟩), _, _, rfl, h⟩
  · rw [if_neg c] at h
    refine jr_aload_n dX5_weakOn_7 rfl rfl ?_
    refine jr_geta ff_X5_15 (ks_ice0 hic0) (rr_ice1 hic0) dX5_weakOn_8 ?_
    refine jr_iload_n dX5_weakOn_11 rfl rfl ?_
    obtain ⟨g2, h⟩ := h
    refine jv_iaload rfl rfl (ks_ice2 hic0) dX5_weakOn_12 g2 ?_
    refine jr_goto dX5_weakOn_13 (tgt := 17) (by decide) ?_
    exact jr_ireturn dX5_weakOn_17 ⟨Or.inr (Or.inl ⟨rfl, _, rfl⟩), _, _, rfl, h⟩
def wX5_weakSquares_4 (G : jG) (l : Launch) (d : Nat) (ic0 : Nat) (Q : Option Value → jS → jL → Prop) : Nat → Int32 → Int32 → jS → jL → Prop
  | 0, _, _, _, _ => False
  | n4 + 1, x1, x2, I, L => if (24 : Int32) ≤ x2 then (Q (some (.int x1)) I L) else (vp_in x2 24 ∧ (if (I (ic0 + 2) x2.toNatClampNeg) ≤ 0 then ((wX5_weakSquares_4 G l d ic0 Q n4) x1 (x2 + (1 : Int32)) I L) else ((wX5_weakSquares_4 G l d ic0 Q n4) (x1 + (1 : Int32)) (x2 + (1 : Int32)) I L)))
set_option maxRecDepth 100000 in
set_option maxHeartbeats 4000000 in
theorem wX5_weakSquares_4_ok {G : jG} {l : Launch} {d : Nat} {ic0 : Nat} {Q : Option Value → jS → jL → Prop} (hic0 : isIce ic0) : ∀ (n : Nat) (x1 : Int32) (x2 : Int32) (I : jS) (L : jL), wX5_weakSquares_4 G l d ic0 Q n x1 x2 I L → J G l yX5_weakSquares cX5_weakSquares 3 (d + 1) 0 0 4 [some (.ref ic0), some (.int x1), some (.int x2)] [] (jKS, I, L, jR0) (jQm (some .int) Q) := by
  intro n
  induction n with
  | zero => intro x1 x2 I L h; exact h.elim
  | succ n ih =>
    intro x1 x2 I L h
    rw [wX5_weakSquares_4] at h
    refine jr_iload_n dX5_weakSquares_4 rfl rfl ?_
    refine jr_bipush dX5_weakSquares_5 kbp_24 ?_
    refine jr_icmp_ge dX5_weakSquares_7 (tgt := 28) (by decide) (fun c => ?_) (fun c => ?_)
    · rw [if_pos c] at h
      refine jr_iload_n dX5_weakSquares_28 rfl rfl ?_
      exact jr_ireturn dX5_weakSquares_29 ⟨Or.inr (Or.inl ⟨rfl, _, rfl⟩), _, _, rfl, h⟩
    · rw [if_neg c] at h
      refine jr_aload_n dX5_weakSquares_10 rfl rfl ?_
      refine jr_geta ff_X5_15 (ks_ice0 hic0) (rr_ice1 hic0) dX5_weakSquares_11 ?_
      refine jr_iload_n dX5_weakSquares_14 rfl rfl ?_
      obtain ⟨g1, h⟩ := h
      refine jv_iaload rfl rfl (ks_ice2 hic0) dX5_weakSquares_15 g1 ?_
      refine jr_if_le dX5_weakSquares_16 (tgt := 22) (by decide) (fun c => ?_) (fun c => ?_)
      · rw [if_pos c] at h
        refine jr_iinc dX5_weakSquares_22 rfl (by rw [kic_1]) (by decide) rfl ?_
        refine jr_goto dX5_weakSquares_25 (tgt := 4) (by decide) ?_
        exact J.sub (ih _ _ _ _ h) (jsub_some (jsub_some (jsub_some jsub_nil)))
      · rw [if_neg c] at h
        refine jr_iinc dX5_weakSquares_19 rfl (by rw [kic_1]) (by decide) rfl ?_
        refine jr_iinc dX5_weakSquares_22 rfl (by rw [kic_1]) (by decide) rfl ?_
        refine jr_goto dX5_weakSquares_25 (tgt := 4) (by decide) ?_
        exact J.sub (ih _ _ _ _ h) (jsub_some (jsub_some (jsub_some jsub_nil)))
def wX5_weakSquares (G : jG) (l : Launch) (d : Nat) (ic0 : Nat) (I : jS) (L : jL) (Q : Option Value → jS → jL → Prop) : Prop := ∃ e4 : Nat, wX5_weakSquares_4 G l d ic0 Q e4 (0 : Int32) (0 : Int32) I L
set_option maxRecDepth 100000 in
set_option maxHeartbeats 4000000 in
theorem wX5_weakSquares_ok {G : jG} {l : Launch} {d : Nat} {ic0 : Nat} {Q : Option Value → jS → jL → Prop} (hic0 : isIce ic0) {I : jS} {L : jL} (h : wX5_weakSquares G l d ic0 I L Q) : cM G l mX5_weakSquares (d + 1) [.ref ic0] I L Q := by
  rw [wX5_weakSquares] at h
  show jCall G l yX5_weakSquares cX5_weakSquares 3 (some .int) (d + 1) 0 0 _ (jKS, I, L, jR0) _
  refine jCall_of (n0 := 2) (ls := [some (.ref ic0), none, none]) (by decide +kernel) rfl (Nat.le_of_ble_eq_true rfl) (jQm_of ?_)
  refine jr_iconst dX5_weakSquares_0 kic_0 ?_
  refine jr_istore_n dX5_weakSquares_1 rfl (by decide) rfl ?_
  refine jr_iconst dX5_weakSquares_2 kic_0 ?_
  refine jr_istore_n dX5_weakSquares_3 rfl (by decide) rfl ?_
  obtain ⟨e4, h⟩ := h
  exact J.sub (wX5_weakSquares_4_ok hic0 e4 _ _ _ _ h) (jsub_some (jsub_some (jsub_some jsub_nil)))

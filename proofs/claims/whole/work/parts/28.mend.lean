/-! mend, undo, redo -/
theorem placeN_inj {g : Int} {n w n' w' : Nat} (hg : g ≤ 7) (h : hasN g n w) (h' : hasN g n' w') (e : placeN n w = placeN n' w') : w = w' ∧ n = n' := by
  unfold hasN at h h'
  unfold placeN at e
  split at e <;> split at e <;> (try split at e) <;> (try split at e) <;> omega
theorem placeN_lt {g : Int} {n w : Nat} (hg : g ≤ 7) (h : hasN g n w) : placeN n w < 125 := by
  unfold hasN at h
  unfold placeN
  split
  · omega
  · split <;> omega
theorem InvP_set {I I' : jS} {n w : Nat} {v : Int32} (h : InvP I) (hh : hasN (I 1 1).toInt n w) (hv : okv w v) (e1 : I' 1 1 = I 1 1) (e6 : I' 71 6 = I 71 6) (ea : ∀ w' n', w' < 9 → I' (3 + w') n' = if w' = w ∧ n' = n then v else I (3 + w') n') (eb : ∀ j, I' 72 j = if j = placeN n w then v else I 72 j) : InvP I' := by
  obtain ⟨h1, h2, h3, h4⟩ := h
  refine ⟨by rw [e1, e6]; exact h1, by rw [e1]; exact h2, fun w' n' hw' => ?_, fun n' hn1 hn2 => ?_⟩
  · rw [e1] at hw'
    have hw9 : w' < 9 := by unfold hasN at hw'; omega
    rw [ea w' n' hw9, eb]
    by_cases hc : w' = w ∧ n' = n
    · rw [if_pos hc, hc.1, hc.2, if_pos rfl]
      exact ⟨rfl, hv⟩
    · rw [if_neg hc, if_neg (fun e => hc (placeN_inj h2.2 hw' hh e))]
      exact h3 w' n' hw'
  · rw [e1] at hn1
    have e8 := ea 5 n' (by decide)
    rw [show 3 + 5 = 8 from rfl] at e8
    rw [e8, if_neg]
    · exact h4 n' hn1 hn2
    · intro hc
      unfold hasN at hh
      omega
theorem InvC_done {I I' : jS} {x : Int32} (h : InvC I) (e : ∀ r, r ∈ [13, 14, 15, 16, 73, 74, 75] → I' r = I r) (e5 : I' 12 5 = I 12 5) (m4 : I' 71 4 = I 71 4) (e4 : I' 12 4 = x) (m5 : I' 71 5 = x) (hx : 0 ≤ x.toInt ∧ x.toInt ≤ (I 12 5).toInt) (e1 : I' 1 1 = I 1 1) : InvC I' := by
  obtain ⟨h1, h2, h3, h4⟩ := h
  refine ⟨by rw [m5, e4], by rw [m4, e5]; exact h2, by rw [e4, e5]; omega, fun j hj => ?_⟩
  rw [e5] at hj
  rw [e 13 (by decide), e 14 (by decide), e 15 (by decide), e 16 (by decide), e 73 (by decide), e 74 (by decide), e 75 (by decide), e1]
  exact h4 j hj
theorem mem9 {w : Nat} (h : w < 9) : 3 + w ∈ [3, 4, 5, 6, 7, 8, 9, 10, 11, 12, 72] := by
  have : w = 0 ∨ w = 1 ∨ w = 2 ∨ w = 3 ∨ w = 4 ∨ w = 5 ∨ w = 6 ∨ w = 7 ∨ w = 8 := by omega
  rcases this with rfl | rfl | rfl | rfl | rfl | rfl | rfl | rfl | rfl <;> decide
section MD
variable {LR : jLR} {G : jG} {l : Launch} {d k : Nat} {I : jS} {L : jL} {K : Int32 → Int32 → jS → jL → Prop}
theorem T_undo (h : Inv LR k I L) (hk : ∀ r I' L', Inv LR (k + 1) I' L' → K r r I' L') :
    cI G l mX11_undo (d + 9) [.ref 0] I L (fun r I1 L1 => cI G l mX12_undo (d + 9) [.ref 71] I1 L1 (fun r' I2 L2 => K r r' I2 L2)) := by
  obtain ⟨hP, hC, hI, hT, hR, hD, hG, hA, hS, hM⟩ := id h
  obtain ⟨c1, c2, c3, c4⟩ := id hC
  have hg := hP.2.1
  have hr := zrange (I 12 4)
  have hx : (I 12 4 - 1).toInt = (I 12 4).toInt - 1 := by rw [zsub (by rw [z1]; omega) (by rw [z1]; omega), z1]
  by_cases h0 : (I 12 4).toInt = 0
  · refine two (P := fun r I1 L1 => L1 = L ∧ r = -5 ∧ I1 = I) (fun Q hq => ?_) (fun r I1 L1 hp Q hq => ?_) hk
    · refine wX11_undo_ok ?_
      unfold wX11_undo
      refine wX2_undoIn_ok (Q := fun v I' L' => ∃ r, v = some (.int r) ∧ (if r = 0 then _ else _)) ?_
      unfold wX2_undoIn
      rw [if_pos (by rw [zlt, z1]; omega)]
      refine ⟨0, rfl, ?_⟩
      rw [if_pos rfl]
      exact ri (hq _ _ _ ⟨rfl, rfl, rfl⟩)
    · obtain ⟨rfl, rfl, rfl⟩ := hp
      refine wX12_undo_ok ?_
      unfold wX12_undo
      rw [if_pos (by rw [c1, zeq, z0]; exact h0)]
      exact ri (hq _ _ h.up)
  · obtain ⟨n, w, b1, b2, b3, b4, b5, b6, b7, b8⟩ := c4 ((I 12 4).toInt.toNat - 1) (by omega)
    have hj : (I 12 4 - 1).toNatClampNeg = (I 12 4).toInt.toNat - 1 := by rw [znat, hx]; omega
    generalize hjj : (I 12 4).toInt.toNat - 1 = j at *
    have hw9 : w < 9 := by unfold hasN at b3; omega
    refine two (P := fun r I1 L1 => L1 = L ∧ r = I 12 4 - 1 ∧ I1 = u2 (u2 I 12 4 (I 12 4 - 1)) (3 + w) n (I 15 j)) (fun Q hq => ?_) (fun r I1 L1 hp Q hq => ?_) hk
    · refine wX11_undo_ok ?_
      unfold wX11_undo
      refine wX2_undoIn_ok (Q := fun v I' L' => ∃ r, v = some (.int r) ∧ (if r = 0 then _ else _)) ?_
      unfold wX2_undoIn
      rw [if_neg (by rw [zlt, z1]; omega), if_pos (by rw [zle, zl_40]; omega)]
      refine ⟨by rw [zin, hx]; omega, ?_⟩
      rw [hj]
      have e1 : (u2 I 12 4 (I 12 4 - 1)) 1 1 = I 1 1 := u2n (by decide)
      refine tX7_set (fun q => absurd (by rw [e1, b1, b2]; exact hasN_Z b3) q) (fun _ => ⟨1, rfl, ?_⟩) (by rw [e1]; omega)
      rw [if_neg (by decide)]
      refine ri (hq _ _ _ ⟨rfl, ?_, ?_⟩)
      · rw [b1, b2]
        simp only [u2_ap]
        rw [if_neg (by omega), if_pos (by simp)]
      · rw [b1, b2]
        rfl
    · obtain ⟨rfl, rfl, hI1⟩ := hp
      have f5 : I1 71 5 = I 12 4 := by rw [hI1]; simp only [u2_ap]; rw [if_neg (by omega), if_neg (by omega)]; exact c1
      have fr : ∀ r, r ≠ 12 → r ≠ 3 + w → I1 r = I r := fun r h1 h2 => by rw [hI1, u2_ne r h2, u2_ne r h1]
      have f73 := fr 73 (by decide) (by omega)
      have f74 := fr 74 (by decide) (by omega)
      have hpl := placeN_lt hg.2 b3
      refine wX12_undo_ok ?_
      unfold wX12_undo
      rw [f5, f73, f74, hj, if_neg (by rw [zeq, z0]; exact h0)]
      have hpn : (I 73 j).toNatClampNeg = placeN n w := by rw [znat, b4]; omega
      refine ⟨by rw [zin, hx]; omega, by rw [zin, b4]; omega, ri ?_⟩
      rw [hpn, b5]
      refine hq _ _ ?_
      have ha : ag [3, 4, 5, 6, 7, 8, 9, 10, 11, 12, 72] [5] I (u2 (u2 I1 71 5 (I 12 4 - 1)) 72 (placeN n w) (I 15 j)) := by
        rw [hI1]
        exact agu (agm (agu (agu ag.rf (by decide) (by decide)) (mem9 hw9) (by omega)) (by decide)) (by decide) (by decide)
      refine ⟨InvP_set hP b3 b7 (ha.1 1 (by decide) (by decide) ▸ rfl) (ha.2 6 (by decide)) (fun w' n' hw' => ?_) (fun q => ?_), InvC_done hC (fun r hr => ?_) ?_ (ha.2 4 (by decide)) (x := I 12 4 - 1) ?_ ?_ (by rw [hx]; omega) (ha.1 1 (by decide) (by decide) ▸ rfl), hI.ag ha rfl (by omega), hT.ag ha rfl, LR_ag hR ha rfl, hD.ag ha rfl, hG.ag ha rfl (by omega), hA.ag ha rfl, hS.ag ha rfl, hM.ag ha rfl rfl⟩
      · rw [hI1]
        simp only [u2_ap]
        rw [if_neg (by omega), if_neg (by omega)]
        by_cases hc : w' = w ∧ n' = n
        · rw [if_pos hc, if_pos (by omega)]
        · rw [if_neg hc, if_neg (by omega), if_neg (by omega)]
      · rw [hI1]
        simp only [u2_ap]
        by_cases hc : q = placeN n w
        · rw [if_pos (by simp [hc]), if_pos hc]
        · rw [if_neg (fun z => hc z.2), if_neg hc, if_neg (by omega), if_neg (by omega), if_neg (by omega)]
      · exact ha.1 r (fun q => by subst q; revert hr; decide) (fun q => by revert hr q; simp; omega)
      · rw [hI1]; simp only [u2_ap]; rw [if_neg (by omega), if_neg (by omega), if_neg (by omega), if_neg (by omega)]
      · rw [hI1]; simp only [u2_ap]; rw [if_neg (by omega), if_neg (by omega), if_neg (by omega), if_pos (by simp)]
      · simp only [u2_ap]; rw [if_neg (by omega), if_pos (by simp)]
theorem T_redo (h : Inv LR k I L) (hk : ∀ r I' L', Inv LR (k + 1) I' L' → K r r I' L') :
    cI G l mX11_redo (d + 9) [.ref 0] I L (fun r I1 L1 => cI G l mX12_redo (d + 9) [.ref 71] I1 L1 (fun r' I2 L2 => K r r' I2 L2)) := by
  obtain ⟨hP, hC, hI, hT, hR, hD, hG, hA, hS, hM⟩ := id h
  obtain ⟨c1, c2, c3, c4⟩ := id hC
  have hg := hP.2.1
  have hx : (I 12 4 + 1).toInt = (I 12 4).toInt + 1 := by rw [zadd (by rw [z1]; omega) (by rw [z1]; omega), z1]
  by_cases h0 : (I 12 4).toInt = (I 12 5).toInt
  · refine two (P := fun r I1 L1 => L1 = L ∧ r = -5 ∧ I1 = I) (fun Q hq => ?_) (fun r I1 L1 hp Q hq => ?_) hk
    · refine wX11_redo_ok ?_
      unfold wX11_redo
      refine wX2_redoIn_ok (Q := fun v I' L' => ∃ r, v = some (.int r) ∧ (if r = 0 then _ else _)) ?_
      unfold wX2_redoIn
      rw [if_neg (by rw [zlt, z0]; omega), if_pos (by rw [zle]; omega)]
      refine ⟨0, rfl, ?_⟩
      rw [if_pos rfl]
      exact ri (hq _ _ _ ⟨rfl, rfl, rfl⟩)
    · obtain ⟨rfl, rfl, rfl⟩ := hp
      refine wX12_redo_ok ?_
      unfold wX12_redo
      rw [if_pos (by rw [c1, c2, zeq]; exact h0)]
      exact ri (hq _ _ h.up)
  · obtain ⟨n, w, b1, b2, b3, b4, b5, b6, b7, b8⟩ := c4 (I 12 4).toInt.toNat (by omega)
    have hj : (I 12 4).toNatClampNeg = (I 12 4).toInt.toNat := rfl
    generalize hjj : (I 12 4).toInt.toNat = j at *
    have hw9 : w < 9 := by unfold hasN at b3; omega
    refine two (P := fun r I1 L1 => L1 = L ∧ r = I 12 5 - (I 12 4 + 1) ∧ I1 = u2 (u2 I (3 + w) n (I 16 j)) 12 4 (I 12 4 + 1)) (fun Q hq => ?_) (fun r I1 L1 hp Q hq => ?_) hk
    · refine wX11_redo_ok ?_
      unfold wX11_redo
      refine wX2_redoIn_ok (Q := fun v I' L' => ∃ r, v = some (.int r) ∧ (if r = 0 then _ else _)) ?_
      unfold wX2_redoIn
      rw [if_neg (by rw [zlt, z0]; omega), if_neg (by rw [zle]; omega), if_pos (by rw [zlt, zl_40]; omega)]
      refine ⟨by rw [zin]; omega, ?_⟩
      rw [hj]
      refine tX7_set (fun q => absurd (by rw [b1, b2]; exact hasN_Z b3) q) (fun _ => ⟨1, rfl, ?_⟩) (by omega)
      rw [if_neg (by decide), b1, b2]
      have e4 : (u2 I (3 + w) n (I 16 j)) 12 4 = I 12 4 := by rw [u2_ap, if_neg (by omega)]
      have e5 : (u2 I (3 + w) n (I 16 j)) 12 5 = I 12 5 := by rw [u2_ap, if_neg (by omega)]
      refine ri (hq _ _ _ ⟨rfl, ?_, ?_⟩)
      · rw [u2i (by decide), u2e]
        show (u2 I (3 + w) n (I 16 j)) 12 5 - ((u2 I (3 + w) n (I 16 j)) 12 4 + 1) = _
        rw [e4, e5]
      · show u2 (u2 I (3 + w) n (I 16 j)) 12 4 ((u2 I (3 + w) n (I 16 j)) 12 4 + 1) = _
        rw [e4]
    · obtain ⟨rfl, rfl, hI1⟩ := hp
      have fr : ∀ r, r ≠ 12 → r ≠ 3 + w → I1 r = I r := fun r h1 h2 => by rw [hI1, u2_ne r h1, u2_ne r h2]
      have f71 := fr 71 (by decide) (by omega)
      have f73 := fr 73 (by decide) (by omega)
      have f75 := fr 75 (by decide) (by omega)
      have hpl := placeN_lt hg.2 b3
      refine wX12_redo_ok ?_
      unfold wX12_redo
      rw [f71, f73, f75, c1, c2, hj, if_neg (by rw [zeq]; exact h0)]
      have hpn : (I 73 j).toNatClampNeg = placeN n w := by rw [znat, b4]; omega
      refine ⟨by rw [zin]; omega, by rw [zin, b4]; omega, ri ?_⟩
      rw [hpn, b6]
      refine hq _ _ ?_
      have ha : ag [3, 4, 5, 6, 7, 8, 9, 10, 11, 12, 72] [5] I (u2 (u2 I1 72 (placeN n w) (I 16 j)) 71 5 (I 12 4 + 1)) := by
        rw [hI1]
        exact agm (agu (agu (agu ag.rf (mem9 hw9) (by omega)) (by decide) (by decide)) (by decide) (by decide)) (by decide)
      refine ⟨InvP_set hP b3 b8 (ha.1 1 (by decide) (by decide) ▸ rfl) (ha.2 6 (by decide)) (fun w' n' hw' => ?_) (fun q => ?_), InvC_done hC (fun r hr => ?_) ?_ (ha.2 4 (by decide)) (x := I 12 4 + 1) ?_ ?_ (by rw [hx]; omega) (ha.1 1 (by decide) (by decide) ▸ rfl), hI.ag ha rfl (by omega), hT.ag ha rfl, LR_ag hR ha rfl, hD.ag ha rfl, hG.ag ha rfl (by omega), hA.ag ha rfl, hS.ag ha rfl, hM.ag ha rfl rfl⟩
      · rw [hI1]
        simp only [u2_ap]
        rw [if_neg (by omega), if_neg (by omega), if_neg (by omega)]
        by_cases hc : w' = w ∧ n' = n
        · rw [if_pos hc, if_pos (by omega)]
        · rw [if_neg hc, if_neg (by omega)]
      · rw [hI1]
        simp only [u2_ap]
        by_cases hc : q = placeN n w
        · rw [if_neg (by omega), if_pos (by simp [hc]), if_pos hc]
        · rw [if_neg (by omega), if_neg (fun z => hc z.2), if_neg hc, if_neg (by omega), if_neg (by omega)]
      · exact ha.1 r (fun q => by subst q; revert hr; decide) (fun q => by revert hr q; simp; omega)
      · rw [hI1]; simp only [u2_ap]; rw [if_neg (by omega), if_neg (by omega), if_neg (by omega), if_neg (by omega)]
      · rw [hI1]; simp only [u2_ap]; rw [if_neg (by omega), if_neg (by omega), if_pos (by simp)]
      · exact u2e
end MD

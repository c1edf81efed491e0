/-! shelves: keep, row, put, element -/
section SH
variable {LR : jLR} {G : jG} {l : Launch} {d k : Nat} {I : jS} {L : jL} {K : Int32 → Int32 → jS → jL → Prop} {Q : Int32 → jS → jL → Prop} {Qv : jS → jL → Prop}
theorem tX9_isEmpty {x : Int32} (h : Q (b01 (¬ (0 ≤ x.toInt ∧ x.toInt < 6) ∨ I 58 x.toInt.toNat = -1)) I L) : cI G l mX9_isEmpty (d + 2) [.ref 57, .int x] I L Q := by
  refine wX9_isEmpty_ok ?_
  unfold wX9_isEmpty
  refine tX11_isShelf (ifz (fun c => ri ?_) (fun c => ⟨by rw [zin]; omega, ife (fun c2 => ri ?_) (fun c2 => ri ?_)⟩))
  · rw [b01_pos (Or.inl c)] at h; exact h
  · rw [znat] at c2; rw [b01_pos (Or.inr c2)] at h; exact h
  · rw [znat] at c2; rw [b01_neg (fun q => q.elim (fun z => z c) c2)] at h; exact h
theorem tX9_isRow {x : Int32} (h : Q (b01 ((0 ≤ x.toInt ∧ x.toInt < 6) ∧ 0 ≤ (I 58 x.toInt.toNat).toInt)) I L) : cI G l mX9_isRow (d + 2) [.ref 57, .int x] I L Q := by
  refine wX9_isRow_ok ?_
  unfold wX9_isRow
  refine tX11_isShelf (ifz (fun c => ri ?_) (fun c => ⟨by rw [zin]; omega, ife (fun c2 => ri ?_) (fun c2 => ri ?_)⟩))
  · rw [b01_neg (fun q => c q.1)] at h; exact h
  · rw [zlt, z0, znat] at c2
    rw [b01_neg (fun q => by omega)] at h; exact h
  · rw [zlt, z0, znat] at c2
    rw [b01_pos ⟨c, by omega⟩] at h; exact h
theorem tX9_isBytes {x : Int32} (h : Q (b01 ((0 ≤ x.toInt ∧ x.toInt < 6) ∧ I 58 x.toInt.toNat = 0)) I L) : cI G l mX9_isBytes (d + 2) [.ref 57, .int x] I L Q := by
  refine wX9_isBytes_ok ?_
  unfold wX9_isBytes
  refine tX11_isShelf (ifz (fun c => ri ?_) (fun c => ⟨by rw [zin]; omega, ife (fun c2 => ri ?_) (fun c2 => ri ?_)⟩))
  · rw [b01_neg (fun q => c q.1)] at h; exact h
  · rw [b01_pos ⟨c, c2⟩] at h; exact h
  · rw [b01_neg (fun q => c2 q.2)] at h; exact h
theorem tX9_sizeOf {x : Int32} (h : Q (if 0 ≤ x.toInt ∧ x.toInt < 6 then I 59 x.toInt.toNat else 0) I L) : cI G l mX9_sizeOf (d + 2) [.ref 57, .int x] I L Q := by
  refine wX9_sizeOf_ok ?_
  unfold wX9_sizeOf
  refine tX11_isShelf (ifz (fun c => ri ?_) (fun c => ⟨by rw [zin]; omega, ri ?_⟩))
  · rw [if_neg c] at h; exact h
  · rw [if_pos c] at h; exact h
theorem tX9_bodyOn {x : Int32} (h : Q (if 0 ≤ x.toInt ∧ x.toInt < 6 then I 60 x.toInt.toNat else -1) I L) : cI G l mX9_bodyOn (d + 2) [.ref 57, .int x] I L Q := by
  refine wX9_bodyOn_ok ?_
  unfold wX9_bodyOn
  refine tX11_isShelf (ifz (fun c => ri ?_) (fun c => ⟨by rw [zin]; omega, ri ?_⟩))
  · rw [if_neg c] at h; exact h
  · rw [if_pos c] at h; exact h
theorem tX9_get {x y : Int32} {Q : Int64 → jS → jL → Prop} (h : Q (if (0 ≤ x.toInt ∧ x.toInt < 6) ∧ 0 ≤ y.toInt ∧ y.toInt < 60 then L (62 + x.toInt.toNat) y.toInt.toNat else 0) I L) : cJ G l mX9_get (d + 2) [.ref 57, .int x, .int y] I L Q := by
  refine wX9_get_ok ?_
  unfold wX9_get
  refine tX11_isShelf (ifz (fun c => rl ?_) (fun c => ife (fun c2 => rl ?_) (fun c2 => ife (fun c3 => rl ?_) (fun c3 => ?_))))
  · rw [if_neg (fun q => c q.1)] at h; exact h
  · rw [zlt, z0] at c2
    rw [if_neg (fun q => by omega)] at h; exact h
  · rw [zle, zl_60] at c3
    rw [if_neg (fun q => by omega)] at h; exact h
  · rw [zlt, z0] at c2
    rw [zle, zl_60] at c3
    refine ⟨by rw [zin]; omega, by rw [zin]; omega, rl ?_⟩
    rw [if_pos ⟨c, by omega, by omega⟩] at h; exact h
theorem tX9_placeRefusal {x y : Int32} (hx : 0 ≤ x.toInt ∧ x.toInt < 6) (h1 : I 58 x.toInt.toNat = -1 → Q (-11) I L) (h2 : ¬ I 58 x.toInt.toNat = -1 → ¬ 0 ≤ (I 58 x.toInt.toNat).toInt → Q (-12) I L) (h3 : 0 ≤ (I 58 x.toInt.toNat).toInt → ¬ (0 ≤ y.toInt ∧ y.toInt < (I 59 x.toInt.toNat).toInt) → Q (-13) I L) (h4 : 0 ≤ (I 58 x.toInt.toNat).toInt → (0 ≤ y.toInt ∧ y.toInt < (I 59 x.toInt.toNat).toInt) → Q 0 I L) : cI G l mX9_placeRefusal (d + 3) [.ref 57, .int x, .int y] I L Q := by
  refine wX9_placeRefusal_ok ?_
  unfold wX9_placeRefusal
  refine tX9_isEmpty (ifz (fun c => ?_) (fun c => ri (h1 (c.resolve_left (fun z => z hx)))))
  have c0 : ¬ I 58 x.toInt.toNat = -1 := fun z => c (Or.inr z)
  refine tX9_isRow (ifz (fun c2 => ri (h2 c0 (fun z => c2 ⟨hx, z⟩))) (fun c2 => ife (fun c3 => ri (h3 c2.2 ?_)) (fun c3 => ?_)))
  · rw [zlt, z0] at c3; omega
  · rw [zlt, z0] at c3
    refine tX9_sizeOf ?_
    rw [show (if 0 ≤ x.toInt ∧ x.toInt < 6 then I 59 x.toInt.toNat else 0) = I 59 x.toInt.toNat from if_pos hx]
    refine ife (fun c4 => ri (h3 c2.2 ?_)) (fun c4 => ri (h4 c2.2 ?_))
    · rw [zle] at c4; omega
    · rw [zle] at c4; omega
theorem tX12_refusal {x y : Int32} (h0 : ¬ (0 ≤ x.toInt ∧ x.toInt < 6) → Q (-1) I L) (h1 : (0 ≤ x.toInt ∧ x.toInt < 6) → (I 89 x.toInt.toNat).toInt < 0 → Q (-11) I L) (h2 : (0 ≤ x.toInt ∧ x.toInt < 6) → 0 ≤ (I 89 x.toInt.toNat).toInt → (I 89 x.toInt.toNat).toInt < 50 → Q (-12) I L) (h3 : (0 ≤ x.toInt ∧ x.toInt < 6) → 50 ≤ (I 89 x.toInt.toNat).toInt → ¬ (0 ≤ y.toInt ∧ y.toInt < (I 90 x.toInt.toNat).toInt) → Q (-13) I L) (h4 : (0 ≤ x.toInt ∧ x.toInt < 6) → 50 ≤ (I 89 x.toInt.toNat).toInt → (0 ≤ y.toInt ∧ y.toInt < (I 90 x.toInt.toNat).toInt) → Q 0 I L) : cI G l mX12_refusal (d + 3) [.ref 71, .int x, .int y] I L Q := by
  refine wX12_refusal_ok ?_
  unfold wX12_refusal
  refine tX12_isShelf (ifz (fun c => ri (h0 c)) (fun c => ⟨by rw [zin]; omega, ?_⟩))
  rw [znat]
  refine ife (fun c2 => ife (fun c3 => ife (fun c4 => ri (h3 c ?_ ?_)) (fun c4 => ife (fun c5 => ri (h3 c ?_ ?_)) (fun c5 => ri (h4 c ?_ ?_)))) (fun c3 => ri (h2 c ?_ ?_))) (fun c2 => ri (h1 c ?_))
  all_goals simp only [zle, zlt, z0, zl_50] at *
  all_goals omega
theorem InvS_one {I I' : jS} {L L' : jL} {e : Nat} (h : InvS I L) (he : e < 6) (hc : ∀ r, r ∈ [58, 59, 60, 89, 90] → ∀ j, j ≠ e → I' r j = I r j) (h68 : I' 68 2 = I 68 2) (hL : ∀ j, j < 6 → j ≠ e → L' (62 + j) = L (62 + j)) (hL2 : ∀ j q, j < 6 → j ≠ e → q < 60 → L' 91 (60 * j + q) = L 91 (60 * j + q))
    (hn : ((I' 58 e = -1 ∧ I' 89 e = -1 ∧ I' 59 e = 0 ∧ I' 60 e = -1 ∧ I' 90 e = 0) ∨
   (I' 58 e = -2 ∧ I' 89 e = I' 60 e ∧ 0 ≤ (I' 60 e).toInt ∧ (I' 60 e).toInt < (I' 68 2).toInt ∧ I' 59 e = 0 ∧ I' 90 e = 0) ∨
   (0 ≤ (I' 58 e).toInt ∧ (I' 58 e).toInt ≤ 4 ∧ (I' 89 e).toInt = 50 + (I' 58 e).toInt ∧ I' 60 e = -1 ∧ I' 90 e = I' 59 e ∧ 0 ≤ (I' 59 e).toInt ∧ (I' 59 e).toInt ≤ 60 ∧ (I' 58 e = 0 → ∀ j, j < 60 → -128 ≤ (L' (62 + e) j).toInt ∧ (L' (62 + e) j).toInt ≤ 127))) ∧
  (0 ≤ (I' 58 e).toInt → ∀ j, j < 60 → L' 91 (60 * e + j) = L' (62 + e) j)) : InvS I' L' := by
  intro q hq
  by_cases hqe : q = e
  · subst hqe; exact hn
  · have ho := h q hq
    rw [hc 58 (by decide) q hqe, hc 59 (by decide) q hqe, hc 60 (by decide) q hqe, hc 89 (by decide) q hqe, hc 90 (by decide) q hqe, h68, hL q hq hqe]
    refine ⟨ho.1, fun h0 j hj => ?_⟩
    rw [hL2 q j hq hqe hj]
    exact ho.2 h0 j hj
theorem T_keep {a b : Int32} (h : Inv LR k I L) (hk : ∀ r I' L', Inv LR (k + 1) I' L' → K r r I' L') :
    cI G l mX11_keep (d + 9) [.ref 0, .int a, .int b] I L (fun r I1 L1 => cI G l mX12_keep (d + 9) [.ref 71, .int a, .int b] I1 L1 (fun r' I2 L2 => K r r' I2 L2)) := by
  obtain ⟨hP, hC, hI, hT, hR, hD, hG, hA, hS, hM⟩ := id h
  have hbd := hA.2.1
  have zm1 : (-1 : Int32).toInt = -1 := by decide
  refine two (P := fun r I1 L1 => L1 = L ∧ ((¬ ((0 ≤ a.toInt ∧ a.toInt < 6) ∧ -1 ≤ b.toInt ∧ b.toInt < (I 68 2).toInt) ∧ r = -1 ∧ I1 = I) ∨ (((0 ≤ a.toInt ∧ a.toInt < 6) ∧ -1 ≤ b.toInt ∧ b.toInt < (I 68 2).toInt) ∧ r = 1 ∧ I1 = u2 (u2 (u2 I 58 a.toInt.toNat (if b.toInt < 0 then -1 else -2)) 60 a.toInt.toNat b) 59 a.toInt.toNat 0))) (fun Q hq => ?_) (fun r I1 L1 hp Q hq => ?_) hk
  · refine wX11_keep_ok ?_
    unfold wX11_keep
    refine tX11_isShelf (ifz (fun c => ri (hq _ _ _ ⟨rfl, Or.inl ⟨fun q => c q.1, rfl, rfl⟩⟩)) (fun c => ife (fun c2 => ri (hq _ _ _ ⟨rfl, Or.inl ⟨fun q => ?_, rfl, rfl⟩⟩)) (fun c2 => ife (fun c3 => ?_) (fun c3 => ri (hq _ _ _ ⟨rfl, Or.inl ⟨fun q => ?_, rfl, rfl⟩⟩)))))
    · rw [zlt, zm1] at c2; omega
    · rw [zlt, zm1] at c2
      rw [zlt] at c3
      have hin : vp_in a 6 := by rw [zin]; omega
      have hgo := hq 1 _ L ⟨rfl, Or.inr ⟨⟨c, by omega, c3⟩, rfl, rfl⟩⟩
      refine wX9_holdBody_ok (Q := fun v I' L' => v = none ∧ _) ?_
      unfold wX9_holdBody
      refine tX11_isShelf (ifz (fun q => absurd c q) (fun _ => ?_))
      refine ife (fun c5 => ?_) (fun c5 => ?_)
      · rw [zle, z0] at c5
        unfold wX9_holdBody_23 wX9_holdBody_38
        rw [if_pos (by rw [zle, z0]; exact c5)]
        refine ⟨hin, hin, hin, rfl, ri ?_⟩
        rw [if_neg (by omega)] at hgo
        exact hgo
      · rw [zle, z0] at c5
        unfold wX9_holdBody_23 wX9_holdBody_38
        rw [if_neg (by rw [zle, z0]; exact c5)]
        refine ⟨hin, hin, hin, rfl, ri ?_⟩
        rw [if_pos (by omega), show b = -1 by rw [zeq, zm1]; omega] at hgo
        exact hgo
    · rw [zlt] at c3; omega
  · obtain ⟨rfl, hp⟩ := hp
    refine wX12_keep_ok ?_
    unfold wX12_keep
    refine tX12_isShelf (ifz (fun c => ?_) (fun c => ?_))
    · rcases hp with ⟨-, rfl, rfl⟩ | ⟨q, -⟩
      · exact ri (hq _ _ h.up)
      · exact absurd q.1 c
    · have hin : vp_in a 6 := by rw [zin]; omega
      have good : ((0 ≤ a.toInt ∧ a.toInt < 6) ∧ -1 ≤ b.toInt ∧ b.toInt < (I 68 2).toInt) → wX12_keep_22 G l (d + 8) (fun v I' L' => ∃ r, v = some (.int r) ∧ Q r I' L') a b I1 L1 := by
        intro hg
        rcases hp with ⟨q, -⟩ | ⟨-, rfl, rfl⟩
        · exact absurd hg q
        · unfold wX12_keep_22
          refine ⟨hin, ri (hq _ _ ?_)⟩
          rw [znat]
          generalize hw : (if b.toInt < 0 then (-1 : Int32) else -2) = w
          generalize he : a.toInt.toNat = e
          have he6 : e < 6 := by omega
          have ha : ag [58, 59, 60, 89, 90] [] I (u2 (u2 (u2 (u2 (u2 I 58 e w) 60 e b) 59 e 0) 89 e b) 90 e 0) := agu (agu (agu (agu (agu ag.rf (by decide) (by decide)) (by decide) (by decide)) (by decide) (by decide)) (by decide) (by decide)) (by decide) (by decide)
          refine ⟨hP.ag ha rfl, hC.ag ha rfl (by rw [ha.1 1 (by decide) (by decide)]; omega), hI.ag ha rfl (by omega), hT.ag ha rfl, LR_ag hR ha rfl, hD.ag ha rfl, hG.ag ha rfl (by omega), hA.ag ha rfl, ?_, hM.ag ha rfl rfl⟩
          refine InvS_one hS he6 (fun r hr j hj => ?_) (by rw [ha.1 68 (by decide) (by decide)]) (fun _ _ _ => rfl) (fun _ _ _ _ _ => rfl) ?_
          · simp only [u2_ap]
            simp [hj]
          · have e58 : (u2 (u2 (u2 (u2 (u2 I 58 e w) 60 e b) 59 e 0) 89 e b) 90 e 0) 58 e = w := by simp [u2_ap]
            have e59 : (u2 (u2 (u2 (u2 (u2 I 58 e w) 60 e b) 59 e 0) 89 e b) 90 e 0) 59 e = 0 := by simp [u2_ap]
            have e60 : (u2 (u2 (u2 (u2 (u2 I 58 e w) 60 e b) 59 e 0) 89 e b) 90 e 0) 60 e = b := by simp [u2_ap]
            have e89 : (u2 (u2 (u2 (u2 (u2 I 58 e w) 60 e b) 59 e 0) 89 e b) 90 e 0) 89 e = b := by simp [u2_ap]
            have e90 : (u2 (u2 (u2 (u2 (u2 I 58 e w) 60 e b) 59 e 0) 89 e b) 90 e 0) 90 e = 0 := by simp [u2_ap]
            rw [e58, e59, e60, e89, e90, ha.1 68 (by decide) (by decide)]
            by_cases hb0 : b.toInt < 0
            · rw [if_pos hb0] at hw
              have hb1 : b = -1 := by rw [zeq, zm1]; omega
              refine ⟨Or.inl ⟨hw.symm, hb1, rfl, hb1, rfl⟩, fun q => ?_⟩
              rw [← hw, zm1] at q
              omega
            · rw [if_neg hb0] at hw
              refine ⟨Or.inr (Or.inl ⟨hw.symm, rfl, by omega, hg.2.2, rfl, rfl⟩), fun q => ?_⟩
              rw [← hw, show (-2 : Int32).toInt = -2 by decide] at q
              omega
      have e43 : I1 71 43 = I 68 2 := by
        rcases hp with ⟨-, -, rfl⟩ | ⟨-, -, rfl⟩
        · exact hA.1
        · simp only [u2_ap]
          simp [hA.1]
      refine ife (fun c2 => ?_) (fun c2 => ?_)
      · rw [zeq, zm1] at c2
        exact good ⟨c, by omega, by omega⟩
      · rw [zeq, zm1] at c2
        refine tX12_isBody (by rw [e43]; exact hbd.1) (ifz (fun c3 => ?_) (fun c3 => ?_))
        · rw [e43] at c3
          rcases hp with ⟨-, rfl, rfl⟩ | ⟨q, -⟩
          · exact ri (hq _ _ h.up)
          · omega
        · rw [e43] at c3
          exact good ⟨c, by omega, by omega⟩
end SH

/-! go -/
theorem zcross_fell {F : Option lF} {p : Nat → Nat → Int} {st wk : Nat → Int} {mn : Int} {way n : Nat} {more : Int} {back : Bool} : (zcross F p st way n more back wk mn).1 = -1 ∨ 0 ≤ (zcross F p st way n more back wk mn).1 := by
  have key : ∀ (c : zC) m k wk, (zgo F c st mn (p 8 0) (zsq way back) m k wk).1 = -1 ∨ 0 ≤ (zgo F c st mn (p 8 0) (zsq way back) m k wk).1 := by
    intro c m
    induction m with
    | zero => intro k wk; unfold zgo; exact Or.inl rfl
    | succ m ih =>
      intro k wk
      unfold zgo
      by_cases h : c.2.1 ≤ zB st wk mn (p 8 0) (zsq way back k)
      · rw [if_pos h]; exact ih _ _
      · rw [if_neg h]; exact Or.inr (by simp only; omega)
  exact key _ 8 0 wk
section TGo
variable {G : jG} {l : Launch} {d k : Nat} {I : jS} {L : jL} {K : Int32 → Int32 → jS → jL → Prop} {LR : jLR}
theorem tX4_lead {x y : Int32} {Q : jS → jL → Prop} (h : Q (if x = -1 then u2 (u2 (u2 I 28 0 (I 28 0 + 1)) 28 1 (I 28 1 + 1)) 28 3 (if I 28 3 < y then y else I 28 3) else u2 (u2 (u2 I 28 0 (I 28 0 + 1)) 28 2 (I 28 2 + 1)) 28 4 x) L) : cV G l mX4_lead (d + 1) [.ref 24, .int x, .int y] I L Q := by
  refine wX4_lead_ok (Q := fun v I' L' => v = none ∧ Q I' L') ?_
  unfold wX4_lead
  refine ife (fun c => ⟨rfl, ?_⟩) (fun c => ⟨rfl, ?_⟩)
  · rw [if_pos c] at h; exact h
  · rw [if_neg c] at h; exact h
theorem T_go {a b : Int32} (h : Inv (LRl G l) k I L) (hk5 : k ≤ 512) (hk : ∀ r I' L', Inv (LRl G l) (k + 1) I' L' → K r r I' L') :
    cI G l mX11_go (d + 109) [.ref 0, .int a, .int b] I L (fun r I1 L1 => cI G l mX12_go (d + 109) [.ref 71, .int a, .int b] I1 L1 (fun r' I2 L2 => K r r' I2 L2)) := by
  obtain ⟨F, p, hF, hp⟩ := h.fr
  obtain ⟨hP, hC, hI, hT, hR, hD, hG, hA, hS, hM⟩ := id h
  have ho := dz h hk5
  have hst := zst0 hF
  have hb := hP.2.1
  by_cases hx : (0 ≤ a.toInt ∧ a.toInt < (I 1 1).toInt) ∧ (0 ≤ b.toInt ∧ b.toInt < 3)
  case neg =>
    refine two (P := fun r' I1 L1 => I1 = I ∧ r' = -1 ∧ L1 = L) (fun Q hq => ?_) (fun r' I1 L1 hp Q hq => ?_) hk
    · refine wX11_go_ok ?_
      unfold wX11_go
      exact tX11_isGoer (ifz (fun c1 => ri (hq _ _ _ ⟨rfl, rfl, rfl⟩)) (fun c1 => tX11_isWay (ifz (fun c2 => ri (hq _ _ _ ⟨rfl, rfl, rfl⟩)) (fun c2 => absurd ⟨c1, c2⟩ hx))))
    · obtain ⟨rfl, rfl, rfl⟩ := hp
      refine wX12_go_ok ?_
      unfold wX12_go
      refine tX12_isGoer (by rw [hP.1]; exact hb.1) (ifz (fun c1 => ri (hq _ _ h.up)) (fun c1 => tX12_isWay (ifz (fun c2 => ri (hq _ _ h.up)) (fun c2 => absurd ⟨?_, ?_⟩ hx))))
      · rw [hP.1, z64] at c1; exact c1
      · rw [z64] at c2; exact c2
  obtain ⟨hx, hw⟩ := hx
  have hax : a.toInt = (a.toInt.toNat : Nat) := by omega
  have hbx : b.toInt = (b.toInt.toNat : Nat) := by omega
  have hna : ((a.toInt.toNat : Nat) : Int) < (I 1 1).toInt := by omega
  have hnw : b.toInt.toNat < 3 := by omega
  generalize a.toInt.toNat = n at *
  generalize b.toInt.toNat = way at *
  have hzo := zcross_ok hF (st := p 0) (more := 0) (back := false) hnw hna (by decide) ho
  have hfl := zcross_fell (F := F) (p := p) (st := p 0) (wk := dwk I) (mn := (I 25 2).toInt) (way := way) (n := n) (more := 0) (back := false)
  have ha0 : ag [26] [] I (cpk I (25 + 1) 3 24) := agc ag.rf (by simp) (by decide)
  have hw4 := hF.go hna (w := 4) (by decide)
  generalize hZ : zcross F p (p 0) way n 0 false (dwk I) (I 25 2).toInt = Z at *
  refine two (P := fun r I1 L1 => L1 = L ∧ ∃ (f : Int32) (I2 : jS), f.toInt = Z.1 ∧ ag [25, 26, 27, 21, 22, 23] [] I I2 ∧ Ic 25 I2 (p 0) Z.2.1 Z.2.2 ∧ I1 = (if f = -1 then u2 (u2 (u2 I2 28 0 (I2 28 0 + 1)) 28 1 (I2 28 1 + 1)) 28 3 (if I2 28 3 < I 7 n then I 7 n else I2 28 3) else u2 (u2 (u2 I2 28 0 (I2 28 0 + 1)) 28 2 (I2 28 2 + 1)) 28 4 f) ∧ r = if f = -1 then 1 else 0) (fun Q hq => ?_) (fun r I1 L1 hp2 Q hq => ?_) hk
  · refine wX11_go_ok ?_
    unfold wX11_go
    refine tX11_isGoer (ifz (fun c1 => absurd hx c1) (fun _ => tX11_isWay (ifz (fun c2 => absurd hw c2) (fun _ => tX3_layStrength (by unfold isIce; decide) ?_))))
    refine tX3_cross (back := false) (by unfold isIce; decide) (hF.ag ha0 rfl) (Ic_lay hF) ho hst hbx hnw hax hna (more := 0) (by decide) (by decide) rfl (fun r4 I4 h4 ha4 hI4 => ?_)
    rw [hZ] at h4 hI4
    have hall : ag [25, 26, 27, 21, 22, 23] [] I I4 := (ha0.mono (S' := [25, 26, 27, 21, 22, 23]) (T' := []) (by simp) (by simp)).tr (ha4.mono (S' := [25, 26, 27, 21, 22, 23]) (T' := []) (by simp) (by simp)) (by simp) (by simp)
    refine tX7_get ?_
    rw [if_pos (by rw [zl_4]; omega), zl_4, hax, Int.toNat_natCast]
    have e7 : I4 (3 + (4 : Int).toNat) n = I 7 n := by
      have : I4 7 = I 7 := hall.c 7
      exact congrFun this n
    rw [e7]
    refine tX4_lead (ife (fun c => ri (hq _ _ _ ⟨rfl, r4, I4, h4, hall, hI4, rfl, ?_⟩)) (fun c => ri (hq _ _ _ ⟨rfl, r4, I4, h4, hall, hI4, rfl, ?_⟩)))
    · rw [if_pos c]
    · rw [if_neg c]
  · obtain ⟨rfl, f, I2, hf, ha, hI2, rfl, rfl⟩ := hp2
    -- the class's store
    generalize hJ : (if f = -1 then u2 (u2 (u2 I2 28 0 (I2 28 0 + 1)) 28 1 (I2 28 1 + 1)) 28 3 (if I2 28 3 < I 7 n then I 7 n else I2 28 3) else u2 (u2 (u2 I2 28 0 (I2 28 0 + 1)) 28 2 (I2 28 2 + 1)) 28 4 f) = J
    have ha2 : ag [28] [] I2 J := by
      rw [← hJ]
      by_cases c : f = -1
      · rw [if_pos c]; exact agu (agu (agu ag.rf (by decide) (by decide)) (by decide) (by decide)) (by decide) (by decide)
      · rw [if_neg c]; exact agu (agu (agu ag.rf (by decide) (by decide)) (by decide) (by decide)) (by decide) (by decide)
    have haJ : ag [25, 26, 27, 21, 22, 23, 28] [] I J := (ha.mono (S' := [25, 26, 27, 21, 22, 23, 28]) (T' := []) (by simp) (by simp)).tr (ha2.mono (S' := [25, 26, 27, 21, 22, 23, 28]) (T' := []) (by simp) (by simp)) (by simp) (by simp)
    have e6 : J 71 6 = I 1 1 := by rw [haJ.m 6]; exact hP.1
    refine wX12_go_ok ?_
    unfold wX12_go
    refine tX12_isGoer (by rw [e6]; exact hb.1) (ifz (fun c1 => absurd (by rw [e6, z64]; exact hx) c1) (fun _ => tX12_isWay (ifz (fun c2 => absurd (by rw [z64]; exact hw) c2) (fun _ => tX12_begins1 ?_))))
    have hb1 := ag_begin (J := J)
    have hall1 := (haJ.mono (S' := [25, 26, 27, 21, 22, 23, 28, 80]) (T' := [20]) (by simp) (by simp)).tr (hb1.mono (S' := [25, 26, 27, 21, 22, 23, 28, 80]) (T' := [20]) (by simp) (by simp)) (by simp) (by simp)
    refine tX12_crosses (hF.ag hall1 rfl) (Im_begin (F := F) (g := (I 1 1).toInt) h haJ (by decide)) ho hst hax hna hbx hnw (fun I5 ha5 hI5 h24 => tX12_lays ?_)
    rw [hZ] at hI5 h24 ⊢
    have hl := ag_lays (J := I5)
    have hall2 : ag [25, 26, 27, 21, 22, 23, 28, 76, 79, 80] [8, 13, 14, 15, 16, 17, 20, 24] I (u2 (cpk I5 76 80 24) 71 8 (I5 71 20)) :=
      ((hall1.mono (S' := [25, 26, 27, 21, 22, 23, 28, 76, 79, 80]) (T' := [8, 13, 14, 15, 16, 17, 20, 24]) (by simp) (by simp)).tr (ha5.mono (S' := [25, 26, 27, 21, 22, 23, 28, 76, 79, 80]) (T' := [8, 13, 14, 15, 16, 17, 20, 24]) (by simp) (by simp)) (by simp) (by simp)).tr (hl.mono (S' := [25, 26, 27, 21, 22, 23, 28, 76, 79, 80]) (T' := [8, 13, 14, 15, 16, 17, 20, 24]) (by simp) (by simp)) (by simp) (by simp)
    -- what the ice holds
    have k27 : ∀ s, s < 24 → (J 27 s).toInt = Z.2.1 s := fun s hs => by rw [ha2.c 27]; exact hI2.2.1 s hs
    have k25 : (J 25 2).toInt = Z.2.2 := by rw [ha2.c 25]; exact hI2.2.2
    have m27 : (u2 (cpk I5 76 80 24) 71 8 (I5 71 20)) 27 = J 27 := by
      funext j; rw [u2n (by decide), cpk_ne (by decide), ha5.c 27, hb1.c 27]
    have m25 : (u2 (cpk I5 76 80 24) 71 8 (I5 71 20)) 25 = J 25 := by
      funext j; rw [u2n (by decide), cpk_ne (by decide), ha5.c 25, hb1.c 25]
    have m28 : (u2 (cpk I5 76 80 24) 71 8 (I5 71 20)) 28 = J 28 := by
      funext j; rw [u2n (by decide), cpk_ne (by decide), ha5.c 28, hb1.c 28]
    have m76 : ∀ s, s < 24 → ((u2 (cpk I5 76 80 24) 71 8 (I5 71 20)) 76 s).toInt = Z.2.1 s := fun s hs => by
      rw [u2n (by decide), cpk_eq hs]; exact hI5.2.1 s hs
    have m8 : ((u2 (cpk I5 76 80 24) 71 8 (I5 71 20)) 71 8).toInt = Z.2.2 := by rw [u2e]; exact hI5.2.2
    have m24 : (u2 (cpk I5 76 80 24) 71 8 (I5 71 20)) 71 24 = I5 71 24 := hl.m 24
    have mled : ∀ j, j < 5 → (u2 (cpk I5 76 80 24) 71 8 (I5 71 20)) 71 (36 + j) = I 28 j := fun j hj => by
      rw [hall2.2 (36 + j) (by simp; omega)]
      exact hD j hj
    have hF2 := hF.ag hall2 rfl
    generalize u2 (cpk I5 76 80 24) 71 8 (I5 71 20) = M at *
    have e28 : I2 28 = I 28 := ha.c 28
    -- the end: what was led
    have fin : ∀ M2 : jS, ag [] [36, 37, 38, 39, 40] M M2 → (∀ j, j < 5 → M2 71 (36 + j) = J 28 j) → Inv (LRl G l) (k + 1) M2 L1 := fun M2 hM2 hled => by
      refine h.gen ((hall2.mono (S' := [25, 26, 27, 21, 22, 23, 28, 76, 79, 80]) (T' := [8, 13, 14, 15, 16, 17, 20, 24, 36, 37, 38, 39, 40]) (by simp) (by simp)).tr (hM2.mono (S' := [25, 26, 27, 21, 22, 23, 28, 76, 79, 80]) (T' := [8, 13, 14, 15, 16, 17, 20, 24, 36, 37, 38, 39, 40]) (by simp) (by simp)) (by simp) (by simp)) rfl ⟨fun s hs => ?_, ?_, ?_, ?_⟩ (fun j hj => ?_)
      · have hz := hzo.1 s hs
        rw [hM2.c 76, hM2.c 27, m27]
        exact ⟨by rw [zeq, m76 s hs, k27 s hs], by rw [k27 s hs]; exact hz⟩
      · rw [hM2.m 8, hM2.c 25, m25, zeq, m8, k25]
      · rw [hM2.c 25, m25, k25]; have := ho.2; omega
      · rw [hM2.c 25, m25, k25]
        have := hI.2.2.2
        omega
      · rw [hled j hj, hM2.c 28, m28]
    have c5 : ∀ j, j < 5 → j = 0 ∨ j = 1 ∨ j = 2 ∨ j = 3 ∨ j = 4 := fun j hj => by omega
    have g0 := mled 0 (by decide)
    have g1 := mled 1 (by decide)
    have g2 := mled 2 (by decide)
    have g3 := mled 3 (by decide)
    have g4 := mled 4 (by decide)
    simp only [Nat.reduceAdd] at g0 g1 g2 g3 g4
    by_cases hfo : Z.1 = -1
    · have hf1 : f = -1 := by rw [zeq, hf, hfo]; decide
      rw [if_pos hf1, e28] at hJ
      rw [if_pos hf1] at hq
      rw [b01_pos hfo, if_neg (by decide)]
      unfold wX12_go_58 wX12_go_76 wX12_go_107 wX12_go_111 wX12_go_130
      simp only [if_neg (show ¬ (1 : Int32) = 0 by decide)]
      have hFr : ∀ x y z : Int32, Fr G l F (I 1 1).toInt p (u2 (u2 (u2 M 71 36 x) 71 37 y) 71 38 z) := fun x y z => hF2.ag (S := []) (T := [36, 37, 38]) (agm (agm (agm ag.rf (by decide)) (by decide)) (by decide)) rfl
      refine tX12_ofGoer (hFr _ _ _) hax hna (w := 0) (by decide) (by decide) (fun r1 h1 => ?_)
      have hr1 : r1 = I 7 n := by rw [zeq, h1, hw4.1]
      subst hr1
      have q39 : ∀ x y z : Int32, (u2 (u2 (u2 M 71 36 x) 71 37 y) 71 38 z) 71 39 = I 28 3 := fun x y z => by rw [u2i (by decide), u2i (by decide), u2i (by decide)]; exact g3
      have q40 : ∀ x y z : Int32, (u2 (u2 (u2 M 71 36 x) 71 37 y) 71 38 z) 71 40 = I 28 4 := fun x y z => by rw [u2i (by decide), u2i (by decide), u2i (by decide)]; exact g4
      have q37 : ∀ x : Int32, (u2 M 71 36 x) 71 38 = I 28 2 := fun x => by rw [u2i (by decide)]; exact g2
      have led : ∀ w : Int32, w = (if I 28 3 < I 7 n then I 7 n else I 28 3) → Inv (LRl G l) (k + 1) (u2 (u2 (u2 (u2 (u2 M 71 36 (M 71 36 + 1)) 71 37 (M 71 37 + 1)) 71 38 (M 71 38 + 0)) 71 39 w) 71 40 (I 28 4)) L1 := fun w hw => by
        refine fin _ (agm (agm (agm (agm (agm ag.rf (by decide)) (by decide)) (by decide)) (by decide)) (by decide)) (fun j hj => ?_)
        rw [g0, g1, g2, hw, ← hJ]
        rcases c5 j hj with rfl | rfl | rfl | rfl | rfl
        · simp [u2_ap]
        · simp [u2_ap]
        · simp [u2_ap, e28]
        · simp [u2_ap]
        · simp [u2_ap, e28]
      have s37 : (u2 M 71 36 (M 71 36 + 1)) 71 38 = M 71 38 := u2i (by decide)
      have s37b : (u2 (u2 M 71 36 (M 71 36 + 1)) 71 37 (M 71 37 + 1)) 71 38 = M 71 38 := by rw [u2i (by decide), u2i (by decide)]
      refine ife (fun q => ri ?_) (fun q => ?_)
      · rw [q39] at q ⊢
        rw [q40]
        refine hq _ _ ?_
        have hw : I 28 3 = (if I 28 3 < I 7 n then I 7 n else I 28 3) := by
          rw [zle] at q
          rw [if_neg (by rw [zlt]; omega)]
        rw [s37]
        exact led _ hw
      · rw [q39] at q
        refine tX12_ofGoer (hFr _ _ _) hax hna (w := 0) (by decide) (by decide) (fun r2 h2 => ri ?_)
        have hr2 : r2 = I 7 n := by rw [zeq, h2, hw4.1]
        subst hr2
        rw [q40]
        refine hq _ _ ?_
        have hw : I 7 n = (if I 28 3 < I 7 n then I 7 n else I 28 3) := by
          rw [zle] at q
          rw [if_pos (by rw [zlt]; omega)]
        rw [s37]
        exact led _ hw
    · have hf1 : ¬ f = -1 := fun q => hfo (by rw [← hf, q]; decide)
      rw [if_neg hf1, e28] at hJ
      rw [if_neg hf1] at hq
      rw [b01_neg hfo, if_pos rfl]
      unfold wX12_go_58 wX12_go_76 wX12_go_107 wX12_go_111 wX12_go_130
      simp only [if_true]
      refine ri (hq _ _ (fin _ (agm (agm (agm (agm (agm ag.rf (by decide)) (by decide)) (by decide)) (by decide)) (by decide)) (fun j hj => ?_)))
      have hff : I5 71 24 = f := by rw [zeq, h24 hfo, hf]
      have hM24 : M 71 24 = f := by rw [m24, hff]
      rw [← hJ]
      rcases c5 j hj with rfl | rfl | rfl | rfl | rfl
      · simp [u2_ap, g0, e28]
      · simp [u2_ap, g1, e28]
      · simp [u2_ap, g2, e28]
      · simp [u2_ap, g3, e28]
      · simp [u2_ap, hM24, e28]
end TGo

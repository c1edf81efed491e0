/-! of, stay, go -/
def LRl (G : jG) (l : Launch) : jLR := fun a b c e => ∃ F, LW G l F a b c e
theorem rst_0 {p : Nat → Nat → Int} {tw : Int32} {s : Nat} : rst (-1) tw 0 p s = p 0 s := by
  unfold rst
  rw [if_pos (by decide), if_neg (fun q => bitP_0 (by omega) q.2)]
  omega
section TO
variable {G : jG} {l : Launch} {d k : Nat} {I : jS} {L : jL} {K : Int32 → Int32 → jS → jL → Prop} {LR : jLR}
theorem Inv.fr (h : Inv (LRl G l) k I L) : ∃ F p, Fr G l F (I 1 1).toInt p I ∧ ∀ w n, p w n = (I (3 + w) n).toInt := by
  obtain ⟨hP, hC, hI, hT, ⟨F, hR⟩, hD, hG, hA, hS, hM⟩ := h
  refine ⟨F, fun w n => (I (3 + w) n).toInt, ⟨hP.2.1, rfl, by rw [hP.1], fun w n hw => ?_, hR⟩, fun w n => rfl⟩
  obtain ⟨a, b⟩ := hP.2.2.1 w n hw
  exact ⟨rfl, by rw [a], b⟩
theorem Inv.gen {S T : List Nat} {I' : jS} (h : Inv LR k I L) (ha : ag S T I I')
    (hn : (noP S T && noC S T && noT S T && noLR S T && noG S T && noA S T && noSh S && !T.contains 21 && !T.contains 23) = true) (hI' : InvI (k + 1) I') (hD' : InvD I') : Inv LR (k + 1) I' L := by
  simp only [Bool.and_eq_true] at hn
  obtain ⟨⟨⟨⟨⟨⟨⟨⟨n1, n2⟩, n4⟩, n5⟩, n7⟩, n8⟩, n9⟩, n10⟩, n11⟩ := hn
  obtain ⟨hP, hC, hI, hT, hR, hD, hG, hA, hS, hM⟩ := h
  have e1 : I' 1 = I 1 := by
    simp only [noP, Bool.and_eq_true] at n1
    exact ha.1 1 (by decide) (no_S n1.1 (by decide))
  exact ⟨hP.ag ha n1, hC.ag ha n2 (by rw [e1]; omega), hI', hT.ag ha n4, LR_ag hR ha n5, hD', hG.ag ha n7 (by omega), hA.ag ha n8, hS.ag ha n9, hM.ag ha (by simpa using n10) (by simpa using n11)⟩
/-- the deed's weakness and minute -/
def dwk (I : jS) : Nat → Int := fun s => (I 27 s).toInt
theorem dz (h : Inv LR k I L) (hk : k ≤ 512) : zok (dwk I) (I 25 2).toInt := by
  obtain ⟨hP, hC, hI, -⟩ := h
  refine ⟨fun s hs => (hI.1 s hs).2, hI.2.2.1, ?_⟩
  have := hI.2.2.2
  omega
/-- the reference begins in thought -/
theorem Im_begin {F : Option lF} {g : Int} {p : Nat → Nat → Int} {J : jS} {S : List Nat} (h : Inv LR k I L) (ha : ag S [] I J) (h76 : 76 ∉ S) : Im (u2 (cpk J 80 76 24) 71 20 (J 71 8)) p (p 0) (dwk I) (I 25 2).toInt := by
  obtain ⟨hP, hC, hI, hT, hR, hD, hG, hA, hS, hM⟩ := h
  have e76 := ha.1 76 (by decide) h76
  have e8 := ha.m 8
  have e21 := ha.m 21
  have e23 := ha.m 23
  refine ⟨fun s hs => ?_, fun s hs => ?_, ?_⟩
  · have f21 : (u2 (cpk J 80 76 24) 71 20 (J 71 8)) 71 21 = 0 := by rw [u2i (by decide), cpk_ne (by decide), e21]; exact hM.1
    have f23 : (u2 (cpk J 80 76 24) 71 20 (J 71 8)) 71 23 = -1 := by rw [u2i (by decide), cpk_ne (by decide), e23]; exact hM.2
    rw [f21, f23]
    exact rst_0
  · rw [u2n (by decide), cpk_eq hs, e76, (hI.1 s hs).1]
    rfl
  · rw [u2e, e8, hI.2.1]
theorem ag_begin {J : jS} : ag [80] [20] J (u2 (cpk J 80 76 24) 71 20 (J 71 8)) := agm (agc ag.rf (by simp) (by decide)) (by simp)
theorem ag_lays {J : jS} : ag [76] [8] J (u2 (cpk J 76 80 24) 71 8 (J 71 20)) := agm (agc ag.rf (by simp) (by decide)) (by simp)
theorem Ic_deed : Ic 25 I (fun s => (I 26 s).toInt) (dwk I) (I 25 2).toInt := ⟨fun _ _ => rfl, fun _ _ => rfl, rfl⟩
theorem T_stay {a : Int32} (h : Inv (LRl G l) k I L) (hk5 : k ≤ 512) (hk : ∀ r I' L', Inv (LRl G l) (k + 1) I' L' → K r r I' L') :
    cI G l mX11_stay (d + 9) [.ref 0, .int a] I L (fun r I1 L1 => cI G l mX12_stay (d + 9) [.ref 71, .int a] I1 L1 (fun r' I2 L2 => K r r' I2 L2)) := by
  obtain ⟨F, p, hF, hp⟩ := h.fr
  obtain ⟨hP, hC, hI, hT, hR, hD, hG, hA, hS, hM⟩ := id h
  have ho := dz h hk5
  have hs : ∀ (c : 1 ≤ a.toInt ∧ a.toInt ≤ 999), (I 25 2 + a).toInt = (I 25 2).toInt + a.toInt := fun c => by
    have := ho.2
    rw [zadd (by omega) (by omega)]
  have hp1 : ∀ s, s < 24 → 0 ≤ p 1 s := fun s hs => (pok_1 (hF.sq hs (w := 1) (by decide)).2.2).1
  refine two (P := fun r I1 L1 => L1 = L ∧ ((¬ (1 ≤ a.toInt ∧ a.toInt ≤ 999) ∧ r = -1 ∧ I1 = I) ∨ ((1 ≤ a.toInt ∧ a.toInt ≤ 999) ∧ 9999 < (I 25 2).toInt + a.toInt ∧ r = -5 ∧ I1 = I) ∨ ((1 ≤ a.toInt ∧ a.toInt ≤ 999) ∧ (I 25 2).toInt + a.toInt ≤ 9999 ∧ ag [25, 27] [] I I1 ∧ Ic 25 I1 (fun s => (I 26 s).toInt) (zpass p a.toInt (dwk I)) ((I 25 2).toInt + a.toInt) ∧ r = I1 25 2))) (fun Q hq => ?_) (fun r I1 L1 hp Q hq => ?_) hk
  · refine wX11_stay_ok ?_
    unfold wX11_stay
    refine ife (fun c1 => ri (hq _ _ _ ⟨rfl, Or.inl ⟨?_, rfl, rfl⟩⟩)) (fun c1 => ife (fun c2 => ife (fun c3 => ?_) (fun c3 => ri (hq _ _ _ ⟨rfl, Or.inr (Or.inl ⟨?_, ?_, rfl, rfl⟩)⟩))) (fun c2 => ri (hq _ _ _ ⟨rfl, Or.inl ⟨?_, rfl, rfl⟩⟩)))
    · rw [zlt, z1] at c1; omega
    · rw [zlt, z1] at c1
      rw [zle, zl_999] at c2
      rw [zle, hs ⟨by omega, c2⟩, zl_9999] at c3
      refine tX3_pass (by unfold isIce; decide) hF Ic_deed ho rfl (by omega) (fun I1 ha hI1 => ri (hq _ _ _ ⟨rfl, Or.inr (Or.inr ⟨⟨by omega, c2⟩, c3, ha, hI1, rfl⟩)⟩))
    · rw [zlt, z1] at c1
      rw [zle, zl_999] at c2
      omega
    · rw [zlt, z1] at c1
      rw [zle, zl_999] at c2
      rw [zle, hs ⟨by omega, c2⟩, zl_9999] at c3
      omega
    · rw [zle, zl_999] at c2; omega
  · obtain ⟨rfl, hp⟩ := hp
    refine wX12_stay_ok ?_
    unfold wX12_stay
    refine tX12_win (a := 1) (b := 999) (by decide) (by decide) (ifz (fun c1 => ?_) (fun c1 => ?_))
    · rcases hp with ⟨-, rfl, rfl⟩ | ⟨q, -⟩ | ⟨q, -⟩
      · exact ri (hq _ _ h.up)
      · exact absurd q c1
      · exact absurd q c1
    · rcases hp with ⟨q, -⟩ | ⟨-, q, rfl, rfl⟩ | ⟨-, q, ha, hI1, rfl⟩
      · exact absurd c1 q
      · rw [hI.2.1, if_neg (by rw [zle, hs c1, zl_9999]; omega)]
        exact ri (hq _ _ h.up)
      · rw [ha.m 8, hI.2.1, if_pos (by rw [zle, hs c1, zl_9999]; omega)]
        refine tX12_begins1 ?_
        have hb := ag_begin (J := I1)
        refine tX12_passes (hF.ag (ha.tr (hb.mono (S' := [25, 27, 80]) (T' := [20]) (by simp) (by simp)) (by simp) (by simp)) rfl) (Im_begin (F := F) (g := (I 1 1).toInt) h ha (by decide)) ho rfl (by omega) (fun I2 ha2 hI2 => tX12_lays ?_)
        have hl := ag_lays (J := I2)
        have hall : ag [25, 27, 76, 80] [8, 20] I (u2 (cpk I2 76 80 24) 71 8 (I2 71 20)) :=
          (((ha.mono (S' := [25, 27, 76, 80]) (T' := [8, 20]) (by simp) (by simp)).tr (hb.mono (S' := [25, 27, 76, 80]) (T' := [8, 20]) (by simp) (by simp)) (by simp) (by simp)).tr (ha2.mono (S' := [25, 27, 76, 80]) (T' := [8, 20]) (by simp) (by simp)) (by simp) (by simp)).tr (hl.mono (S' := [25, 27, 76, 80]) (T' := [8, 20]) (by simp) (by simp)) (by simp) (by simp)
        have e25 : ∀ j, (u2 (cpk I2 76 80 24) 71 8 (I2 71 20)) 25 j = I1 25 j := fun j => by rw [u2n (by decide), cpk_ne (by decide), ha2.c 25, hb.c 25]
        have e27 : ∀ j, (u2 (cpk I2 76 80 24) 71 8 (I2 71 20)) 27 j = I1 27 j := fun j => by rw [u2n (by decide), cpk_ne (by decide), ha2.c 27, hb.c 27]
        have e8 : (u2 (cpk I2 76 80 24) 71 8 (I2 71 20)) 71 8 = I1 25 2 := by
          rw [u2e, zeq, hI2.2.2, hI1.2.2]
        rw [e8]
        refine ri (hq _ _ (h.gen hall rfl ⟨fun s hs => ?_, ?_, ?_, ?_⟩ (hD.ag hall rfl)))
        · rw [u2n (by decide), cpk_eq hs, e27]
          have hz := zpass_ok (n := a.toInt) (by omega) hp1 ho.1 s hs
          refine ⟨?_, ?_⟩
          · rw [zeq, hI2.2.1 s hs, ← hI1.2.1 s hs]
          · rw [hI1.2.1 s hs]; exact hz
        · rw [e8, e25]
        · rw [e25, hI1.2.2]; have := ho.2; omega
        · rw [e25, hI1.2.2]; omega
theorem tX5_weakOn {ic : Nat} {x : Int32} {Q : Int32 → jS → jL → Prop} (hic : isIce ic) (hx : 0 ≤ x.toInt ∧ x.toInt < 24) (h : Q (I (ic + 2) x.toInt.toNat) I L) : cI G l mX5_weakOn (d + 2) [.ref ic, .int x] I L Q := by
  refine wX5_weakOn_ok hic ?_
  unfold wX5_weakOn
  exact tX11_isSquare (ifz (fun c => absurd hx c) (fun _ => ⟨by rw [zin]; omega, ri h⟩))
theorem zst0 {F : Option lF} {g : Int} {p : Nat → Nat → Int} (hF : Fr G l F g p I) : zstok (p 0) := fun s hs => by
  have := pok_0 (hF.sq hs (w := 0) (by decide)).2.2
  omega
theorem Ic_lay {F : Option lF} {g : Int} {p : Nat → Nat → Int} (hF : Fr G l F g p I) : Ic 25 (cpk I (25 + 1) 3 24) (p 0) (dwk I) (I 25 2).toInt := by
  refine ⟨fun s hs => ?_, fun s hs => ?_, ?_⟩
  · rw [cpk_eq hs]; exact (hF.sq hs (w := 0) (by decide)).1
  · rw [cpk_ne (by decide)]; rfl
  · rw [cpk_ne (by decide)]
theorem T_of {a b : Int32} (h : Inv (LRl G l) k I L) (hk5 : k ≤ 512) (hk : ∀ r I' L', Inv (LRl G l) (k + 1) I' L' → K r r I' L') :
    cI G l mX11_of (d + 9) [.ref 0, .int a, .int b] I L (fun r I1 L1 => cI G l mX12_of (d + 9) [.ref 71, .int a, .int b] I1 L1 (fun r' I2 L2 => K r r' I2 L2)) := by
  obtain ⟨F, p, hF, hp⟩ := h.fr
  obtain ⟨hP, hC, hI, hT, hR, hD, hG, hA, hS, hM⟩ := id h
  have ho := dz h hk5
  have hst := zst0 hF
  have hb := hP.2.1
  refine two (P := fun r I1 L1 => L1 = L ∧ ag [26] [] I I1 ∧
    ((b.toInt = 12 ∧ r = if a.toInt = 0 then I 25 2 else -1) ∨
     (b.toInt = 10 ∧ r = if 0 ≤ a.toInt ∧ a.toInt < 24 then I 27 a.toInt.toNat else -1) ∨
     (b.toInt = 11 ∧ ((¬ (0 ≤ a.toInt ∧ a.toInt < 24) ∧ r = -1) ∨ ((0 ≤ a.toInt ∧ a.toInt < 24) ∧ r.toInt = zB (p 0) (dwk I) (I 25 2).toInt (p 8 0) a.toInt.toNat))) ∨
     (b.toInt ≠ 10 ∧ b.toInt ≠ 11 ∧ b.toInt ≠ 12 ∧ ((¬ hasZ (I 1 1).toInt a.toInt b.toInt ∧ r = -1) ∨ (hasZ (I 1 1).toInt a.toInt b.toInt ∧ r = I (3 + b.toInt.toNat) a.toInt.toNat))))) (fun Q hq => ?_) (fun r I1 L1 hp2 Q hq => ?_) hk
  · refine wX11_of_ok ?_
    unfold wX11_of
    have mid : b.toInt = 10 ∨ b.toInt = 11 → wX11_of_37 G l (d + 8) (fun v I' L' => ∃ r, v = some (.int r) ∧ Q r I' L') a b I L := fun hb2 => by
      unfold wX11_of_37
      refine tX11_isSquare (ifz (fun c => ri (hq _ _ _ ⟨rfl, ag.rf, ?_⟩)) (fun c => ?_))
      · rcases hb2 with q | q
        · exact Or.inr (Or.inl ⟨q, by rw [if_neg c]⟩)
        · exact Or.inr (Or.inr (Or.inl ⟨q, Or.inl ⟨c, rfl⟩⟩))
      · refine tX3_layStrength (by unfold isIce; decide) ?_
        have ha : ag [26] [] I (cpk I (25 + 1) 3 24) := agc ag.rf (by simp) (by decide)
        refine ife (fun q => ?_) (fun q => ?_)
        · rw [zeq, zl_10] at q
          refine tX5_weakOn (by unfold isIce; decide) c (ri (hq _ _ _ ⟨rfl, ha, Or.inr (Or.inl ⟨q, ?_⟩)⟩))
          rw [if_pos c, cpk_ne (by decide)]
        · rw [zeq, zl_10] at q
          refine tX3_bearing (by unfold isIce; decide) (hF.ag ha rfl) (Ic_lay hF) ho hst (s := a.toInt.toNat) (by omega) (by omega) (w := 0) (by decide) (by decide) (fun r hr => ri (hq _ _ _ ⟨rfl, ha, Or.inr (Or.inr (Or.inl ⟨by omega, Or.inr ⟨c, ?_⟩⟩))⟩))
          rw [hr]
          have := ho.1 a.toInt.toNat (by omega)
          unfold zB
          rw [Int.zero_mul]
          omega
    refine ife (fun c1 => ife (fun c2 => ri (hq _ _ _ ⟨rfl, ag.rf, Or.inl ⟨?_, ?_⟩⟩)) (fun c2 => ri (hq _ _ _ ⟨rfl, ag.rf, Or.inl ⟨?_, ?_⟩⟩))) (fun c1 => ife (fun c2 => mid ?_) (fun c2 => ife (fun c3 => mid ?_) (fun c3 => ?_)))
    · rw [zeq, zl_12] at c1; exact c1
    · rw [zeq, z0] at c2; rw [if_pos c2]
    · rw [zeq, zl_12] at c1; exact c1
    · rw [zeq, z0] at c2; rw [if_neg c2]
    · rw [zeq, zl_10] at c2; exact Or.inl c2
    · rw [zeq, zl_11] at c3; exact Or.inr c3
    · rw [zeq, zl_12] at c1
      rw [zeq, zl_10] at c2
      rw [zeq, zl_11] at c3
      refine tX7_has (ifz (fun c => ri (hq _ _ _ ⟨rfl, ag.rf, Or.inr (Or.inr (Or.inr ⟨c2, c3, c1, Or.inl ⟨fun q => c q, rfl⟩⟩))⟩)) (fun c => ?_))
      refine tX7_get (ri (hq _ _ _ ⟨rfl, ag.rf, Or.inr (Or.inr (Or.inr ⟨c2, c3, c1, Or.inr ⟨c, ?_⟩⟩))⟩))
      rw [if_pos (by omega)]
  · obtain ⟨rfl, ha, hp2⟩ := hp2
    have hup : Inv (LRl G l) (k + 1) I1 L1 := h.scr ha rfl
    have e6 : I1 71 6 = I 1 1 := by rw [ha.m 6]; exact hP.1
    refine wX12_of_ok ?_
    unfold wX12_of
    refine tX12_placeOf (by rw [e6]; exact hb) (fun c => ?_) (fun c r' hr' => ?_)
    · rw [e6] at c
      rw [if_pos (by decide)]
      refine ife (fun c1 => ?_) (fun c1 => ife (fun c2 => ?_) (fun c2 => ife (fun c3 => ?_) (fun c3 => ?_)))
      · rw [zeq, zl_10] at c1
        rcases hp2 with ⟨q, -⟩ | ⟨-, hr⟩ | ⟨q, -⟩ | ⟨q, -⟩
        · omega
        · refine tX12_isSquare (ifz (fun c4 => ri ?_) (fun c4 => ⟨by rw [zin]; omega, ri ?_⟩))
          · rw [if_neg c4] at hr; subst hr; exact hq _ _ hup
          · rw [if_pos c4] at hr
            rw [ha.c 76, znat, (hI.1 _ (by omega)).1, ← hr]
            exact hq _ _ hup
        · omega
        · omega
      · rw [zeq, zl_10] at c1
        rw [zeq, zl_11] at c2
        rcases hp2 with ⟨q, -⟩ | ⟨q, -⟩ | ⟨-, hr⟩ | ⟨-, q, -⟩
        · omega
        · omega
        · refine tX12_begins1 ?_
          have hb1 := ag_begin (J := I1)
          have hall := (ha.mono (S' := [26, 80]) (T' := [20]) (by simp) (by simp)).tr (hb1.mono (S' := [26, 80]) (T' := [20]) (by simp) (by simp)) (by simp) (by simp)
          have hup2 := h.scr hall rfl
          refine tX12_isSquare (ifz (fun c4 => ri ?_) (fun c4 => ?_))
          · rcases hr with ⟨-, rfl⟩ | ⟨q, -⟩
            · exact hq _ _ hup2
            · exact absurd q c4
          · rcases hr with ⟨q, -⟩ | ⟨-, hr⟩
            · exact absurd c4 q
            · refine tX12_bearsAt (hF.ag hall rfl) (Im_begin (F := F) (g := (I 1 1).toInt) h ha (by decide)) ho hst (s := a.toInt.toNat) (by omega) (by omega) (fun r6 h6 => ri ?_)
              have : r6 = r := by rw [zeq, h6, hr]
              rw [this]
              exact hq _ _ hup2
        · omega
      · rw [zeq, zl_12] at c3
        rw [zeq, zl_10] at c1
        rw [zeq, zl_11] at c2
        rcases hp2 with ⟨-, hr⟩ | ⟨q, -⟩ | ⟨q, -⟩ | ⟨-, -, q, -⟩
        · refine ife (fun c4 => ri ?_) (fun c4 => ri ?_)
          · rw [zeq, z0] at c4
            rw [if_pos c4] at hr
            rw [ha.m 8, hI.2.1, ← hr]; exact hq _ _ hup
          · rw [zeq, z0] at c4
            rw [if_neg c4] at hr
            rw [← hr]; exact hq _ _ hup
        · omega
        · omega
        · omega
      · rw [zeq, zl_12] at c3
        rw [zeq, zl_10] at c1
        rw [zeq, zl_11] at c2
        rcases hp2 with ⟨q, -⟩ | ⟨q, -⟩ | ⟨q, -⟩ | ⟨-, -, -, hr⟩
        · omega
        · omega
        · omega
        · rcases hr with ⟨-, rfl⟩ | ⟨q, -⟩
          · exact ri (hq _ _ hup)
          · exact absurd q c
    · rw [e6] at c
      have hN := hasZ_N c
      have hpl := placeN_lt hb.2 hN
      rw [if_neg (by rw [zlt, z0, hr']; omega)]
      refine ⟨by rw [zin, hr']; omega, ri ?_⟩
      have e1 : r'.toNatClampNeg = placeN a.toInt.toNat b.toInt.toNat := by rw [znat, hr']; omega
      rw [e1, ha.c 72, (hP.2.2.1 _ _ hN).1]
      unfold hasZ at c
      rcases hp2 with ⟨q, -⟩ | ⟨q, -⟩ | ⟨q, -⟩ | ⟨-, -, -, hr⟩
      · omega
      · omega
      · omega
      · rcases hr with ⟨q, -⟩ | ⟨-, rfl⟩
        · unfold hasZ at q; exact absurd c q
        · exact hq _ _ hup
end TO

/-! all that holds between the calls; goer -/
abbrev jLR : Type := Int32 → (Nat → Int32) → Int32 → (Nat → Int32) → Prop
def Inv (LR : jLR) (k : Nat) (I : jS) (L : jL) : Prop := InvP I ∧ InvC I ∧ InvI k I ∧ InvT I ∧ LR (I 17 9) (I 20) (I 71 12) (I 78) ∧ InvD I ∧ InvG k I ∧ InvA I ∧ InvS I L ∧ InvM I
theorem u2_ap {I : jS} {r i r' j : Nat} {x : Int32} : u2 I r i x r' j = if r' = r ∧ j = i then x else I r' j := by
  by_cases h : r' = r
  · subst h
    by_cases hj : j = i
    · subst hj; rw [u2e, if_pos ⟨rfl, rfl⟩]
    · rw [u2i hj, if_neg (fun q => hj q.2)]
  · rw [u2n h, if_neg (fun q => h q.1)]
theorem u2L_ap {I : jL} {r i r' j : Nat} {x : Int64} : u2L I r i x r' j = if r' = r ∧ j = i then x else I r' j := by
  by_cases h : r' = r
  · subst h
    by_cases hj : j = i
    · subst hj; rw [u2Le, if_pos ⟨rfl, rfl⟩]
    · rw [u2Li hj, if_neg (fun q => hj q.2)]
  · rw [u2Ln h, if_neg (fun q => h q.1)]
def noLR (S T : List Nat) : Bool := [17, 20, 78].all (fun r => !S.contains r) && !T.contains 12
theorem LR_ag {LR : jLR} {S T : List Nat} {I I' : jS} (h : LR (I 17 9) (I 20) (I 71 12) (I 78)) (ha : ag S T I I') (hn : noLR S T = true) : LR (I' 17 9) (I' 20) (I' 71 12) (I' 78) := by
  simp only [noLR, Bool.and_eq_true] at hn
  rw [ha.1 17 (by decide) (no_S hn.1 (by decide)), ha.1 20 (by decide) (no_S hn.1 (by decide)), ha.1 78 (by decide) (no_S hn.1 (by decide)), ha.2 12 (by simpa using hn.2)]
  exact h
/-- a call that only scribbles -/
theorem Inv.scr {LR : jLR} {k : Nat} {S T : List Nat} {I I' : jS} {L : jL} (h : Inv LR k I L) (ha : ag S T I I')
    (hn : (noP S T && noC S T && noI S T && noT S T && noLR S T && noD S T && noG S T && noA S T && noSh S && !T.contains 21 && !T.contains 23) = true) : Inv LR (k + 1) I' L := by
  simp only [Bool.and_eq_true] at hn
  obtain ⟨⟨⟨⟨⟨⟨⟨⟨⟨⟨n1, n2⟩, n3⟩, n4⟩, n5⟩, n6⟩, n7⟩, n8⟩, n9⟩, n10⟩, n11⟩ := hn
  obtain ⟨hP, hC, hI, hT, hR, hD, hG, hA, hS, hM⟩ := h
  have e1 : I' 1 = I 1 := by
    simp only [noP, Bool.and_eq_true] at n1
    exact ha.1 1 (by decide) (no_S n1.1 (by decide))
  exact ⟨hP.ag ha n1, hC.ag ha n2 (by rw [e1]; omega), hI.ag ha n3 (by omega), hT.ag ha n4, LR_ag hR ha n5, hD.ag ha n6, hG.ag ha n7 (by omega), hA.ag ha n8, hS.ag ha n9, hM.ag ha (by simpa using n10) (by simpa using n11)⟩
theorem Inv.up {LR : jLR} {k : Nat} {I : jS} {L : jL} (h : Inv LR k I L) : Inv LR (k + 1) I L := h.scr (ag.rf (S := []) (T := [])) rfl
section TG
variable {LR : jLR} {G : jG} {l : Launch} {d k : Nat} {I : jS} {L : jL}
/-- the goers' numbers behind a goer that came -/
theorem InvP_add {I : jS} {w t p : Int32} (h : InvP I) (hg : (I 1 1).toInt < 7) (hw : okv 4 w) (ht : okv 6 t) (hp : okv 7 p) :
    InvP (u2 (u2 (u2 (u2 (u2 (u2 (u2 (u2 (u2 I 1 1 (I 1 1 + 1)) 7 (I 1 1).toInt.toNat w) 9 (I 1 1).toInt.toNat t) 10 (I 1 1).toInt.toNat p) 72 (96 + (I 1 1).toInt.toNat) w) 72 (103 + (I 1 1).toInt.toNat) 0) 72 (110 + (I 1 1).toInt.toNat) t) 72 (117 + (I 1 1).toInt.toNat) p) 71 6 (I 1 1 + 1)) := by
  obtain ⟨h1, h2, h3, h4⟩ := h
  generalize hgn : (I 1 1).toInt.toNat = g
  have hgz : (I 1 1).toInt = (g : Int) := by omega
  have hp1 : (I 1 1 + 1).toInt = (g : Int) + 1 := by rw [zadd (by rw [z1]; omega) (by rw [z1]; omega), z1, hgz]
  refine ⟨?_, ?_, fun w' n hw' => ?_, fun n hn1 hn2 => ?_⟩
  · simp [u2_ap]
  · have : ∀ J : jS, J 1 1 = I 1 1 + 1 → 0 ≤ (J 1 1).toInt ∧ (J 1 1).toInt ≤ 7 := fun J hJ => by rw [hJ, hp1]; omega
    exact this _ (by simp [u2_ap])
  · have e11 : (u2 (u2 (u2 (u2 (u2 (u2 (u2 (u2 (u2 I 1 1 (I 1 1 + 1)) 7 g w) 9 g t) 10 g p) 72 (96 + g) w) 72 (103 + g) 0) 72 (110 + g) t) 72 (117 + g) p) 71 6 (I 1 1 + 1)) 1 1 = I 1 1 + 1 := by simp [u2_ap]
    rw [e11, hp1] at hw'
    by_cases hc : 4 ≤ w' ∧ w' < 8 ∧ n = g
    · obtain ⟨c1, c2, c3⟩ := hc
      subst c3
      have : w' = 4 ∨ w' = 5 ∨ w' = 6 ∨ w' = 7 := by omega
      rcases this with rfl | rfl | rfl | rfl
      · simp [u2_ap, placeN, hw]
      · have h8 : I 8 n = 0 := h4 n (by omega) (by omega)
        simp only [u2_ap, placeN]
        simp [h8, okv_5]
      · simp [u2_ap, placeN, ht]
      · simp [u2_ap, placeN, hp]
    · have hold : hasN (I 1 1).toInt n w' := by rw [hgz]; unfold hasN at *; omega
      obtain ⟨a, b⟩ := h3 w' n hold
      have hw9 : w' < 9 := by unfold hasN at hw'; omega
      have hpl : placeN n w' ≠ 96 + g ∧ placeN n w' ≠ 103 + g ∧ placeN n w' ≠ 110 + g ∧ placeN n w' ≠ 117 + g := by
        unfold hasN at hold
        unfold placeN
        split
        · omega
        · split
          · omega
          · omega
      have e2 : (u2 (u2 (u2 (u2 (u2 (u2 (u2 (u2 (u2 I 1 1 (I 1 1 + 1)) 7 g w) 9 g t) 10 g p) 72 (96 + g) w) 72 (103 + g) 0) 72 (110 + g) t) 72 (117 + g) p) 71 6 (I 1 1 + 1)) (3 + w') n = I (3 + w') n := by
        simp only [u2_ap]
        unfold hasN at hold
        rw [if_neg (by omega), if_neg (by omega), if_neg (by omega), if_neg (by omega), if_neg (by omega), if_neg (by omega), if_neg (by omega), if_neg (by omega), if_neg (by omega)]
      have e3 : (u2 (u2 (u2 (u2 (u2 (u2 (u2 (u2 (u2 I 1 1 (I 1 1 + 1)) 7 g w) 9 g t) 10 g p) 72 (96 + g) w) 72 (103 + g) 0) 72 (110 + g) t) 72 (117 + g) p) 71 6 (I 1 1 + 1)) 72 (placeN n w') = I 72 (placeN n w') := by
        simp only [u2_ap]
        rw [if_neg (by omega), if_neg (by omega), if_neg (by omega), if_neg (by omega), if_neg (by omega), if_neg (by omega), if_neg (by omega), if_neg (by omega), if_neg (by omega)]
      rw [e2, e3]
      exact ⟨a, b⟩
  · have e11 : (u2 (u2 (u2 (u2 (u2 (u2 (u2 (u2 (u2 I 1 1 (I 1 1 + 1)) 7 g w) 9 g t) 10 g p) 72 (96 + g) w) 72 (103 + g) 0) 72 (110 + g) t) 72 (117 + g) p) 71 6 (I 1 1 + 1)) 1 1 = I 1 1 + 1 := by simp [u2_ap]
    rw [e11, hp1] at hn1
    simp only [u2_ap]
    rw [if_neg (by omega), if_neg (by omega), if_neg (by omega), if_neg (by omega), if_neg (by omega), if_neg (by omega), if_neg (by omega), if_neg (by omega), if_neg (by omega)]
    exact h4 n (by omega) hn2
theorem ag_add {I : jS} {w t p w2 t2 p2 z x y : Int32} {a b c a1 a2 a3 a4 : Nat} : ag [1, 7, 9, 10, 72] [6] I (u2 (u2 (u2 (u2 (u2 (u2 (u2 (u2 (u2 I 1 1 x) 7 a w) 9 b t) 10 c p) 72 a1 w2) 72 a2 z) 72 a3 t2) 72 a4 p2) 71 6 y) :=
  agm (agu (agu (agu (agu (agu (agu (agu (agu ag.rf (by decide) (by decide)) (by decide) (by decide)) (by decide) (by decide)) (by decide) (by decide)) (by decide) (by decide)) (by decide) (by decide)) (by decide) (by decide)) (by decide) (by decide)) (by decide)
theorem Inv_add {w t p : Int32} (h : Inv LR k I L) (hg : (I 1 1).toInt < 7) (hw : okv 4 w) (ht : okv 6 t) (hp : okv 7 p) :
    Inv LR k (u2 (u2 (u2 (u2 (u2 (u2 (u2 (u2 (u2 I 1 1 (I 1 1 + 1)) 7 (I 1 1).toInt.toNat w) 9 (I 1 1).toInt.toNat t) 10 (I 1 1).toInt.toNat p) 72 (96 + (I 1 1).toInt.toNat) w) 72 (103 + (I 1 1).toInt.toNat) 0) 72 (110 + (I 1 1).toInt.toNat) t) 72 (117 + (I 1 1).toInt.toNat) p) 71 6 (I 1 1 + 1)) L := by
  obtain ⟨hP, hC, hI, hT, hR, hD, hG, hA, hS, hM⟩ := h
  have hb := hP.2.1
  have ha := ag_add (I := I) (w := w) (t := t) (p := p) (w2 := w) (t2 := t) (p2 := p) (z := 0) (x := I 1 1 + 1) (y := I 1 1 + 1) (a := (I 1 1).toInt.toNat) (b := (I 1 1).toInt.toNat) (c := (I 1 1).toInt.toNat) (a1 := 96 + (I 1 1).toInt.toNat) (a2 := 103 + (I 1 1).toInt.toNat) (a3 := 110 + (I 1 1).toInt.toNat) (a4 := 117 + (I 1 1).toInt.toNat)
  refine ⟨InvP_add hP hg hw ht hp, hC.ag ha rfl ?_, hI.ag ha rfl (by omega), hT.ag ha rfl, LR_ag hR ha rfl, hD.ag ha rfl, hG.ag ha rfl (by omega), hA.ag ha rfl, hS.ag ha rfl, hM.ag ha rfl rfl⟩
  have hp1 : (I 1 1 + 1).toInt = (I 1 1).toInt + 1 := by rw [zadd (by rw [z1]; omega) (by rw [z1]; omega), z1]
  have : ∀ J : jS, J 1 1 = I 1 1 + 1 → (I 1 1).toInt ≤ (J 1 1).toInt := fun J hJ => by rw [hJ, hp1]; omega
  exact this _ (by simp [u2_ap])
/-- a call on the class, then on the reference -/
theorem two {M1 M2 : jM} {D : Nat} {a1 a2 : List Value} {P : Int32 → jS → jL → Prop} {K : Int32 → Int32 → jS → jL → Prop} (h1 : ∀ Q : Int32 → jS → jL → Prop, (∀ r I1 L1, P r I1 L1 → Q r I1 L1) → cI G l M1 D a1 I L Q) (h2 : ∀ r I1 L1, P r I1 L1 → ∀ Q : Int32 → jS → jL → Prop, (∀ I2 L2, Inv LR (k + 1) I2 L2 → Q r I2 L2) → cI G l M2 D a2 I1 L1 Q)
    (hk : ∀ r I' L', Inv LR (k + 1) I' L' → K r r I' L') : cI G l M1 D a1 I L (fun r I1 L1 => cI G l M2 D a2 I1 L1 (fun r' I2 L2 => K r r' I2 L2)) :=
  h1 _ (fun r I1 L1 hp => h2 r I1 L1 hp _ (fun I2 L2 h => hk r I2 L2 h))
theorem twoJ {M1 M2 : jM} {D : Nat} {a1 a2 : List Value} {P : Int64 → jS → jL → Prop} {K : Int64 → Int64 → jS → jL → Prop} (h1 : ∀ Q : Int64 → jS → jL → Prop, (∀ r I1 L1, P r I1 L1 → Q r I1 L1) → cJ G l M1 D a1 I L Q) (h2 : ∀ r I1 L1, P r I1 L1 → ∀ Q : Int64 → jS → jL → Prop, (∀ I2 L2, Inv LR (k + 1) I2 L2 → Q r I2 L2) → cJ G l M2 D a2 I1 L1 Q)
    (hk : ∀ r I' L', Inv LR (k + 1) I' L' → K r r I' L') : cJ G l M1 D a1 I L (fun r I1 L1 => cJ G l M2 D a2 I1 L1 (fun r' I2 L2 => K r r' I2 L2)) :=
  h1 _ (fun r I1 L1 hp => h2 r I1 L1 hp _ (fun I2 L2 h => hk r I2 L2 h))
theorem T_goer {a b : Int32} {K : Int32 → Int32 → jS → jL → Prop} (hst : jSt G) (h : Inv LR k I L) (hk : ∀ r I' L', Inv LR (k + 1) I' L' → K r r I' L') :
    cI G l mX11_goer (d + 9) [.ref 0, .int a, .int b] I L (fun r I1 L1 => cI G l mX12_goer (d + 9) [.ref 71, .int a, .int b] I1 L1 (fun r' I2 L2 => K r r' I2 L2)) := by
  have hP := h.1
  have hb := hP.2.1
  refine two (P := fun r I1 L1 => L1 = L ∧ ((¬ (okv 4 a ∧ okv 6 b) ∧ r = -1 ∧ I1 = I) ∨ ((okv 4 a ∧ okv 6 b) ∧ (I 1 1).toInt = 7 ∧ r = -3 ∧ I1 = I) ∨ ((okv 4 a ∧ okv 6 b) ∧ (I 1 1).toInt < 7 ∧ r = I 1 1 ∧ I1 = u2 (u2 (u2 (u2 I 1 1 (I 1 1 + 1)) 7 (I 1 1).toInt.toNat a) 9 (I 1 1).toInt.toNat b) 10 (I 1 1).toInt.toNat 2))) (fun Q hq => ?_) (fun r I1 L1 hp Q hq => ?_) hk
  · refine wX11_goer_ok ?_
    unfold wX11_goer
    refine tX7_al (n := 4) hst (by decide) (by decide) okv_4 (ifz (fun c => ri (hq _ _ _ ⟨rfl, Or.inl ⟨fun q => c ((okv_4 a).mp q.1), rfl, rfl⟩⟩)) (fun c => ?_))
    refine tX7_al (n := 6) hst (by decide) (by decide) okv_6 (ifz (fun c2 => ri (hq _ _ _ ⟨rfl, Or.inl ⟨fun q => c2 ((okv_6 b).mp q.2), rfl, rfl⟩⟩)) (fun c2 => ?_))
    have hok : okv 4 a ∧ okv 6 b := ⟨(okv_4 a).mpr c, (okv_6 b).mpr c2⟩
    refine ife (fun c4 => ?_) (fun c4 => ri (hq _ _ _ ⟨rfl, Or.inr (Or.inl ⟨hok, ?_, rfl, rfl⟩)⟩))
    · rw [zlt, zl_7] at c4
      exact tX7_add hb (fun q => by omega) (fun _ => ri (hq _ _ _ ⟨rfl, Or.inr (Or.inr ⟨hok, c4, rfl, rfl⟩)⟩))
    · rw [zlt, zl_7] at c4
      omega
  · obtain ⟨rfl, hp⟩ := hp
    refine wX12_goer_ok ?_
    unfold wX12_goer
    refine tX12_win (a := 1) (b := 60) (by decide) (by decide) (ifz (fun c => ?_) (fun c => ?_))
    · rcases hp with ⟨-, rfl, rfl⟩ | ⟨q, -⟩ | ⟨q, -⟩
      · exact ri (hq _ _ h.up)
      · exact absurd ((okv_4 a).mp q.1) c
      · exact absurd ((okv_4 a).mp q.1) c
    · refine tX12_win (a := 0) (b := 60) (by decide) (by decide) (ifz (fun c2 => ?_) (fun c2 => ?_))
      · rcases hp with ⟨-, rfl, rfl⟩ | ⟨q, -⟩ | ⟨q, -⟩
        · exact ri (hq _ _ h.up)
        · exact absurd ((okv_6 b).mp q.2) c2
        · exact absurd ((okv_6 b).mp q.2) c2
      · rcases hp with ⟨q, -⟩ | ⟨-, h7, rfl, rfl⟩ | ⟨-, h7, rfl, rfl⟩
        · exact absurd ⟨(okv_4 a).mpr c, (okv_6 b).mpr c2⟩ q
        · refine ife (fun c5 => ri (hq _ _ h.up)) (fun c5 => ?_)
          rw [hP.1, zeq, zl_7] at c5
          omega
        · have e6 : (u2 (u2 (u2 (u2 I 1 1 (I 1 1 + 1)) 7 (I 1 1).toInt.toNat a) 9 (I 1 1).toInt.toNat b) 10 (I 1 1).toInt.toNat 2) 71 6 = I 1 1 := by
            simp only [u2_ap]
            simp [hP.1]
          refine ife (fun c5 => ?_) (fun c5 => ?_)
          · rw [e6, zeq, zl_7] at c5
            omega
          · refine tX12_adds (by rw [e6]; omega) (ri ?_)
            rw [e6]
            have e7 : ∀ J : jS, J 71 6 = I 1 1 + 1 → J 71 6 - 1 = I 1 1 := fun J hJ => by
              have e8 : (I 1 1 + 1).toInt = (I 1 1).toInt + 1 := by rw [zadd (by rw [z1]; omega) (by rw [z1]; omega), z1]
              rw [hJ, zeq, zsub (by rw [e8, z1]; omega) (by rw [e8, z1]; omega), e8, z1]
              omega
            rw [e7 _ (by simp [u2_ap])]
            exact hq _ _ (Inv_add h h7 ((okv_4 a).mpr c) ((okv_6 b).mpr c2) ((okv_7 2).mpr (by decide))).up
end TG

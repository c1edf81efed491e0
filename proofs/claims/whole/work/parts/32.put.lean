/-! put, element, shift -/
section PT
variable {LR : jLR} {G : jG} {l : Launch} {d k : Nat} {I : jS} {L : jL} {K : Int32 → Int32 → jS → jL → Prop} {KJ : Int64 → Int64 → jS → jL → Prop}
theorem fit_byte (v : Int64) : -128 ≤ (fitL 0 v).toInt ∧ (fitL 0 v).toInt ≤ 127 := by
  unfold fitL
  rw [if_pos rfl, Int32.toInt_toInt64, Int8.toInt_toInt32]
  have h1 := Int8.minValue_le_toInt v.toInt32.toInt8
  have h2 := Int8.toInt_le v.toInt32.toInt8
  have e1 : Int8.minValue.toInt = -128 := by decide
  have e2 : Int8.maxValue.toInt = 127 := by decide
  omega
theorem T_put {a b : Int32} {c : Int64} (h : Inv LR k I L) (hk : ∀ r I' L', Inv LR (k + 1) I' L' → K r r I' L') :
    cI G l mX11_put (d + 9) [.ref 0, .int a, .int b, .long c] I L (fun r I1 L1 => cI G l mX12_put (d + 9) [.ref 71, .int a, .int b, .long c] I1 L1 (fun r' I2 L2 => K r r' I2 L2)) := by
  obtain ⟨hP, hC, hI, hT, hR, hD, hG, hA, hS, hM⟩ := id h
  by_cases hx : 0 ≤ a.toInt ∧ a.toInt < 6
  · have hin : vp_in a 6 := by rw [zin]; omega
    have he6 : a.toInt.toNat < 6 := by omega
    have hae : a.toInt = (a.toInt.toNat : Int) := by omega
    have hR0 := @rfs_0 (I 89 a.toInt.toNat).toInt (I 90 a.toInt.toNat).toInt b.toInt
    obtain ⟨n1, n2, n3, n4⟩ := InvS_neg hS hA.2.1.2 he6
    generalize hr : rfs (I 89 a.toInt.toNat).toInt (I 90 a.toInt.toNat).toInt b.toInt = r at hR0
    refine two (P := fun r' I1 L1 => I1 = I ∧ ((r ≠ 0 ∧ r' = r ∧ L1 = L) ∨ (r = 0 ∧ r' = 1 ∧ L1 = u2L L (62 + a.toInt.toNat) b.toInt.toNat (fitL (I 58 a.toInt.toNat).toInt c)))) (fun Q hq => ?_) (fun r' I1 L1 hp Q hq => ?_) hk
    · refine wX11_put_ok ?_
      unfold wX11_put
      refine tX11_isShelf (ifz (fun c1 => absurd hx c1) (fun _ => ?_))
      refine tX9_placeRef hS hA.2.1.2 hx ?_
      rw [hr]
      refine ife (fun c2 => ?_) (fun c2 => ri (hq _ _ _ ⟨rfl, Or.inl ⟨c2, rfl, rfl⟩⟩))
      have h5 := hR0.mp c2
      have n6 := n3 (n2.mpr h5.1)
      have n7 := n2.mpr h5.1
      rw [n6.2.2.1] at h5
      refine wX9_set_ok (Q := fun v I' L' => v = none ∧ _) ?_
      unfold wX9_set
      refine tX11_isShelf (ifz (fun c1 => absurd hx c1) (fun _ => ?_))
      rw [if_neg (by rw [zlt, z0]; omega), if_neg (by rw [zle, zl_60]; omega)]
      refine ⟨hin, hin, ?_⟩
      rw [znat]
      refine tX9_fitted ⟨n7, n6.1⟩ ⟨by rw [zin]; omega, rfl, ri ?_⟩
      exact hq _ _ _ ⟨rfl, Or.inr ⟨c2, rfl, rfl⟩⟩
    · obtain ⟨rfl, hp⟩ := hp
      refine wX12_put_ok ?_
      unfold wX12_put
      refine tX12_ref hx ?_
      rw [hr]
      rcases hp with ⟨q, rfl, rfl⟩ | ⟨q, rfl, rfl⟩
      · rw [if_neg q]
        unfold wX12_put_37
        rw [if_neg q]
        exact ri (hq _ _ h.up)
      · rw [if_pos q]
        have h5 := hR0.mp q
        have n6 := n3 (n2.mpr h5.1)
        have n7 := n2.mpr h5.1
        rw [n6.2.2.1] at h5
        refine ⟨hin, tX12_asSort ?_⟩
        have e1 := z60a (x := a) (y := b) (e := a.toInt.toNat) (j := b.toInt.toNat) hae he6 (by omega) (by omega)
        refine ⟨by rw [zin, e1]; omega, ?_⟩
        unfold wX12_put_37
        rw [if_pos q, znat, znat, e1]
        have e2 : (I1 89 a.toInt.toNat - 50).toInt = (I1 58 a.toInt.toNat).toInt := by
          rw [zsub (by rw [zl_50]; omega) (by rw [zl_50]; omega), zl_50]; omega
        rw [e2]
        have e3 : ((60 * (a.toInt.toNat : Int) + (b.toInt.toNat : Int))).toNat = 60 * a.toInt.toNat + b.toInt.toNat := by omega
        rw [e3]
        refine ri (hq _ _ ?_)
        generalize a.toInt.toNat = e at *
        have hb60 : b.toInt.toNat < 60 := by omega
        generalize b.toInt.toNat = j at *
        refine ⟨hP, hC, hI.ag (ag.rf (S := []) (T := [])) rfl (by omega), hT, hR, hD, hG.ag (ag.rf (S := []) (T := [])) rfl (by omega), hA, ?_, hM⟩
        refine InvS_one hS he6 (fun r hr j hj => rfl) rfl (fun i hi1 hi2 => ?_) (fun i q hi1 hi2 hq1 => ?_) ?_
        · funext z
          rw [u2L_ap, if_neg (by omega), u2L_ap, if_neg (by omega)]
        · rw [u2L_ap, if_neg (by omega), u2L_ap, if_neg (by omega)]
        · have hold := hS e he6
          have hit : ∀ i, u2L (u2L L (62 + e) j (fitL (I1 58 e).toInt c)) 91 (60 * e + j) (fitL (I1 58 e).toInt c) (62 + e) i = if i = j then fitL (I1 58 e).toInt c else L (62 + e) i := fun i => by
            rw [u2L_ap, if_neg (by omega), u2L_ap]
            by_cases hij : i = j
            · rw [if_pos ⟨rfl, hij⟩, if_pos hij]
            · rw [if_neg (fun q => hij q.2), if_neg hij]
          refine ⟨Or.inr (Or.inr ?_), fun _ i hi => ?_⟩
          · rcases hold.1 with o | o | o
            · rw [o.1] at n7; exact absurd n7 (by decide)
            · rw [o.1] at n7; exact absurd n7 (by decide)
            · refine ⟨o.1, o.2.1, o.2.2.1, o.2.2.2.1, o.2.2.2.2.1, o.2.2.2.2.2.1, o.2.2.2.2.2.2.1, fun z i hi => ?_⟩
              rw [hit]
              by_cases hij : i = j
              · rw [if_pos hij, z, z0]
                exact fit_byte c
              · rw [if_neg hij]; exact o.2.2.2.2.2.2.2 z i hi
          · rw [hit, u2L_ap]
            by_cases hij : i = j
            · rw [if_pos hij, if_pos ⟨rfl, by omega⟩]
            · rw [if_neg hij, if_neg (by omega), u2L_ap, if_neg (by omega)]
              exact hold.2 n7 i hi
  · refine two (P := fun r' I1 L1 => I1 = I ∧ r' = -1 ∧ L1 = L) (fun Q hq => ?_) (fun r' I1 L1 hp Q hq => ?_) hk
    · refine wX11_put_ok ?_
      unfold wX11_put
      exact tX11_isShelf (ifz (fun c1 => ri (hq _ _ _ ⟨rfl, rfl, rfl⟩)) (fun c1 => absurd c1 hx))
    · obtain ⟨rfl, rfl, rfl⟩ := hp
      refine wX12_put_ok ?_
      unfold wX12_put
      refine tX12_refN hx ?_
      rw [if_neg (by decide)]
      unfold wX12_put_37
      rw [if_neg (by decide)]
      exact ri (hq _ _ h.up)
theorem T_element {a b : Int32} (h : Inv LR k I L) (hk : ∀ r I' L', Inv LR (k + 1) I' L' → KJ r r I' L') :
    cJ G l mX11_element (d + 9) [.ref 0, .int a, .int b] I L (fun r I1 L1 => cJ G l mX12_element (d + 9) [.ref 71, .int a, .int b] I1 L1 (fun r' I2 L2 => KJ r r' I2 L2)) := by
  obtain ⟨hP, hC, hI, hT, hR, hD, hG, hA, hS, hM⟩ := id h
  by_cases hx : 0 ≤ a.toInt ∧ a.toInt < 6
  · have he6 : a.toInt.toNat < 6 := by omega
    have hae : a.toInt = (a.toInt.toNat : Int) := by omega
    have hR0 := @rfs_0 (I 89 a.toInt.toNat).toInt (I 90 a.toInt.toNat).toInt b.toInt
    obtain ⟨n1, n2, n3, n4⟩ := InvS_neg hS hA.2.1.2 he6
    generalize hr : rfs (I 89 a.toInt.toNat).toInt (I 90 a.toInt.toNat).toInt b.toInt = r at hR0
    refine twoJ (P := fun r' I1 L1 => I1 = I ∧ L1 = L ∧ ((r ≠ 0 ∧ r' = -9223372036854775808) ∨ (r = 0 ∧ r' = L (62 + a.toInt.toNat) b.toInt.toNat))) (fun Q hq => ?_) (fun r' I1 L1 hp Q hq => ?_) hk
    · refine wX11_element_ok ?_
      unfold wX11_element
      refine tX11_isShelf (ifz (fun c1 => absurd hx c1) (fun _ => ?_))
      refine tX9_placeRef hS hA.2.1.2 hx ?_
      rw [hr]
      refine ife (fun c2 => ?_) (fun c2 => rl (hq _ _ _ ⟨rfl, rfl, Or.inl ⟨c2, rfl⟩⟩))
      have h5 := hR0.mp c2
      have n6 := n3 (n2.mpr h5.1)
      rw [n6.2.2.1] at h5
      refine tX9_get (rl ?_)
      rw [if_pos (by omega)]
      exact hq _ _ _ ⟨rfl, rfl, Or.inr ⟨c2, rfl⟩⟩
    · obtain ⟨rfl, rfl, hp⟩ := hp
      refine wX12_element_ok ?_
      unfold wX12_element
      refine tX12_ref hx ?_
      rw [hr]
      rcases hp with ⟨q, rfl⟩ | ⟨q, rfl⟩
      · rw [if_neg q]
        exact rl (hq _ _ h.up)
      · rw [if_pos q]
        have h5 := hR0.mp q
        have n6 := n3 (n2.mpr h5.1)
        rw [n6.2.2.1] at h5
        have e1 := z60a (x := a) (y := b) (e := a.toInt.toNat) (j := b.toInt.toNat) hae he6 (by omega) (by omega)
        refine ⟨by rw [zin, e1]; omega, ?_⟩
        rw [znat, e1]
        have e3 : ((60 * (a.toInt.toNat : Int) + (b.toInt.toNat : Int))).toNat = 60 * a.toInt.toNat + b.toInt.toNat := by omega
        rw [e3, InvS_it hS he6 (n2.mpr h5.1) (by omega)]
        exact rl (hq _ _ h.up)
  · refine twoJ (P := fun r' I1 L1 => I1 = I ∧ r' = -9223372036854775808 ∧ L1 = L) (fun Q hq => ?_) (fun r' I1 L1 hp Q hq => ?_) hk
    · refine wX11_element_ok ?_
      unfold wX11_element
      exact tX11_isShelf (ifz (fun c1 => rl (hq _ _ _ ⟨rfl, rfl, rfl⟩)) (fun c1 => absurd c1 hx))
    · obtain ⟨rfl, rfl, rfl⟩ := hp
      refine wX12_element_ok ?_
      unfold wX12_element
      refine tX12_refN hx ?_
      rw [if_neg (by decide)]
      exact rl (hq _ _ h.up)
end PT

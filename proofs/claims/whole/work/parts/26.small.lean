/-! copies of rows -/
def cpk (I : jS) (b a k : Nat) : jS := fun r => if r = b then (fun i => if i < k then I a i else I r i) else I r
theorem cpk_ap {I : jS} {b a k r i : Nat} : cpk I b a k r i = if r = b ∧ i < k then I a i else I r i := by
  unfold cpk
  by_cases h : r = b
  · subst h
    by_cases hi : i < k
    · simp [hi]
    · simp [hi]
  · simp [h]
theorem cpk_zero {I : jS} {b a : Nat} : cpk I b a 0 = I := by
  funext r i
  rw [cpk_ap, if_neg (by omega)]
theorem cpk_succ {I : jS} {b a k : Nat} (h : a ≠ b) : u2 (cpk I b a k) b k (I a k) = cpk I b a (k + 1) := by
  funext r i
  rw [u2_ap, cpk_ap, cpk_ap]
  by_cases h1 : r = b ∧ i = k
  · rw [if_pos h1, if_pos ⟨h1.1, by omega⟩, h1.2]
  · rw [if_neg h1]
    by_cases h2 : r = b ∧ i < k
    · rw [if_pos h2, if_pos ⟨h2.1, by omega⟩]
    · rw [if_neg h2, if_neg (by omega)]
theorem cpk_src {I : jS} {b a k i : Nat} (h : a ≠ b) : cpk I b a k a i = I a i := by rw [cpk_ap, if_neg (fun q => h q.1)]
theorem cpk_ne {I : jS} {b a k r : Nat} (h : r ≠ b) : cpk I b a k r = I r := by unfold cpk; rw [if_neg h]
theorem cpk_eq {I : jS} {b a k i : Nat} (h : i < k) : cpk I b a k b i = I a i := by rw [cpk_ap, if_pos ⟨rfl, h⟩]
theorem jcpy_cpk {I : jS} {a b n : Nat} {N : Int32} (hN : N.toInt = n) : jcpy I a b 0 0 N = cpk I b a n := by
  funext r
  unfold jcpy cpk
  by_cases h : r = b
  · subst h
    rw [if_pos rfl, if_pos rfl]
    funext i
    unfold va_cpy
    have e0 : (0 : Int32).toNatClampNeg = 0 := by decide
    have eN : N.toNatClampNeg = n := by rw [znat, hN]; omega
    rw [e0, eN]
    by_cases hi : i < n
    · rw [if_pos (by omega), if_pos hi]
      congr 1
      omega
    · rw [if_neg (by omega), if_neg hi]
  · rw [if_neg h, if_neg h]
theorem jcok0 {n : Nat} {N : Int32} {n0 n1 : Nat} (hN : N.toInt = n) (h0 : n ≤ n0) (h1 : n ≤ n1) : jcok 0 0 N n0 n1 := by
  have e0 : (0 : Int32).toNatClampNeg = 0 := by decide
  have eN : N.toNatClampNeg = n := by rw [znat, hN]; omega
  refine ⟨by decide, by decide, ?_, by rw [e0, eN]; omega, by rw [e0, eN]; omega⟩
  rw [zlt, hN, z0]
  omega
theorem agc {S T : List Nat} {I I1 : jS} {b a k : Nat} (h : ag S T I I1) (hr : b ∈ S) (h71 : b ≠ 71) : ag S T I (cpk I1 b a k) :=
  ⟨fun z h1 h2 => by
    have hz : z ≠ b := fun e => h2 (e ▸ hr)
    rw [cpk_ne hz]; exact h.1 z h1 h2, fun z hz => by rw [cpk_ne (Ne.symm h71)]; exact h.2 z hz⟩
theorem zsucc (k : Nat) : Int32.ofNat k + 1 = Int32.ofNat (k + 1) := by
  rw [Int32.ofNat_add]
  rfl
theorem zo {k : Nat} (h : k ≤ 100000) : (Int32.ofNat k).toInt = k := zofNat (by omega)
theorem zon {k : Nat} (h : k ≤ 100000) : (Int32.ofNat k).toNatClampNeg = k := by rw [znat, zo h]; omega
section SM
variable {LR : jLR} {G : jG} {l : Launch} {d k : Nat} {I : jS} {L : jL} {K : Int32 → Int32 → jS → jL → Prop}
theorem tX6_take {a : Int32} {Q : Int32 → jS → jL → Prop} (hb : 0 ≤ (I 17 5).toInt) (h1 : 120 ≤ (I 17 5).toInt → Q 0 I L) (h2 : (I 17 5).toInt < 120 → Q 1 (u2 (u2 I 18 (I 17 5).toNatClampNeg a) 17 5 (I 17 5 + 1)) L) : cI G l mX6_take (d + 1) [.ref 17, .int a] I L Q := by
  refine wX6_take_ok ?_
  unfold wX6_take
  refine ife (fun c3 => ?_) (fun c3 => ife (fun c4 => ⟨?_, ri (h2 ?_)⟩) (fun c4 => ri (h1 ?_)))
  · rw [zlt, z0] at c3; omega
  · rw [zlt, zl_120] at c4; rw [zin]; omega
  · rw [zlt, zl_120] at c4; exact c4
  · rw [zlt, zl_120] at c4; omega
theorem tX0_traced {a : Int32} {Q : Int32 → jS → jL → Prop} (h1 : ¬ (0 ≤ a.toInt ∧ a.toInt < (I 68 3).toInt ∧ a.toInt < 24) → Q (-1) I L) (h2 : (0 ≤ a.toInt ∧ a.toInt < (I 68 3).toInt ∧ a.toInt < 24) → Q (I 70 a.toInt.toNat) I L) : cI G l mX0_traced (d + 1) [.ref 68, .int a] I L Q := by
  refine wX0_traced_ok ?_
  unfold wX0_traced
  refine ife (fun c => ri (h1 ?_)) (fun c => ife (fun c2 => ri (h1 ?_)) (fun c2 => ife (fun c3 => ri (h1 ?_)) (fun c3 => ⟨?_, ri (h2 ?_)⟩)))
  · rw [zlt, z0] at c; omega
  · rw [zle] at c2; omega
  · rw [zle, zl_24] at c3; omega
  · rw [zlt, z0] at c; rw [zle, zl_24] at c3; rw [zin]; omega
  · rw [zlt, z0] at c; rw [zle] at c2; rw [zle, zl_24] at c3; omega
theorem T_feed {a : Int32} (h : Inv LR k I L) (hk : ∀ r I' L', Inv LR (k + 1) I' L' → K r r I' L') :
    cI G l mX11_feed (d + 9) [.ref 0, .int a] I L (fun r I1 L1 => cI G l mX12_feed (d + 9) [.ref 71, .int a] I1 L1 (fun r' I2 L2 => K r r' I2 L2)) := by
  obtain ⟨hP, hC, hI, hT, hR, hD, hG, hA, hS, hM⟩ := id h
  obtain ⟨t1, t2, t3⟩ := hT
  have e1 : (I 17 5).toInt < 120 → (I 17 5 + 1).toInt = (I 17 5).toInt + 1 := fun q => by rw [zadd (by rw [z1]; omega) (by rw [z1]; omega), z1]
  refine two (P := fun r I1 L1 => L1 = L ∧ ((¬ (0 ≤ a.toInt ∧ a.toInt ≤ 255) ∧ r = -1 ∧ I1 = I) ∨ ((0 ≤ a.toInt ∧ a.toInt ≤ 255) ∧ (I 17 5).toInt = 120 ∧ r = -3 ∧ I1 = I) ∨ ((0 ≤ a.toInt ∧ a.toInt ≤ 255) ∧ (I 17 5).toInt < 120 ∧ r = I 17 5 + 1 ∧ I1 = u2 (u2 I 18 (I 17 5).toNatClampNeg a) 17 5 (I 17 5 + 1)))) (fun Q hq => ?_) (fun r I1 L1 hp Q hq => ?_) hk
  · refine wX11_feed_ok ?_
    unfold wX11_feed
    refine ife (fun c => ri (hq _ _ _ ⟨rfl, Or.inl ⟨?_, rfl, rfl⟩⟩)) (fun c => ife (fun c2 => ?_) (fun c2 => ri (hq _ _ _ ⟨rfl, Or.inl ⟨?_, rfl, rfl⟩⟩)))
    · rw [zlt, z0] at c; omega
    · rw [zlt, z0] at c
      rw [zle, zl_255] at c2
      refine tX6_take t2.1 (fun c4 => ?_) (fun c4 => ?_)
      · rw [if_pos rfl]
        exact ri (hq _ _ _ ⟨rfl, Or.inr (Or.inl ⟨⟨by omega, c2⟩, by omega, rfl, rfl⟩)⟩)
      · rw [if_neg (by decide)]
        refine ri (hq _ _ _ ⟨rfl, Or.inr (Or.inr ⟨⟨by omega, c2⟩, c4, ?_, rfl⟩)⟩)
        rw [u2e]
    · rw [zle, zl_255] at c2; omega
  · obtain ⟨rfl, hp⟩ := hp
    refine wX12_feed_ok ?_
    unfold wX12_feed
    refine tX12_win (a := 0) (b := 255) (by decide) (by decide) (ifz (fun c => ?_) (fun c => ?_))
    · rcases hp with ⟨-, rfl, rfl⟩ | ⟨q, -⟩ | ⟨q, -⟩
      · exact ri (hq _ _ h.up)
      · exact absurd q c
      · exact absurd q c
    · rcases hp with ⟨q, -⟩ | ⟨-, h7, rfl, rfl⟩ | ⟨-, h7, rfl, rfl⟩
      · exact absurd c q
      · refine ife (fun c5 => ri (hq _ _ h.up)) (fun c5 => ?_)
        rw [t1, zeq, zl_120] at c5
        omega
      · have e6 : (u2 (u2 I 18 (I 17 5).toNatClampNeg a) 17 5 (I 17 5 + 1)) 71 10 = I 17 5 := by
          simp only [u2_ap]
          simp [t1]
        refine ife (fun c5 => ?_) (fun c5 => ⟨by rw [e6, zin]; omega, ri ?_⟩)
        · rw [e6, zeq, zl_120] at c5; omega
        · rw [e6]
          refine hq _ _ ?_
          have ha : ag [17, 18, 77] [10] I (u2 (u2 (u2 (u2 I 18 (I 17 5).toNatClampNeg a) 17 5 (I 17 5 + 1)) 77 (I 17 5).toNatClampNeg a) 71 10 (I 17 5 + 1)) := agm (agu (agu (agu ag.rf (by decide) (by decide)) (by decide) (by decide)) (by decide) (by decide)) (by decide)
          refine ⟨hP.ag ha rfl, hC.ag ha rfl ?_, hI.ag ha rfl (by omega), ?_, ?_, hD.ag ha rfl, hG.ag ha rfl (by omega), hA.ag ha rfl, hS.ag ha rfl, hM.ag ha rfl rfl⟩
          · rw [ha.1 1 (by decide) (by decide)]; omega
          · have e5 : (u2 (u2 (u2 (u2 I 18 (I 17 5).toNatClampNeg a) 17 5 (I 17 5 + 1)) 77 (I 17 5).toNatClampNeg a) 71 10 (I 17 5 + 1)) 17 5 = I 17 5 + 1 := by simp [u2_ap]
            refine ⟨by rw [e5]; simp [u2_ap], by rw [e5, e1 h7]; omega, fun j hj => ?_⟩
            rw [e5, e1 h7] at hj
            by_cases hjj : j = (I 17 5).toNatClampNeg
            · subst hjj
              simp only [u2_ap]
              simp [c.1, c.2]
            · have hj2 : (j : Int) < (I 17 5).toInt := by rw [znat] at hjj; omega
              have h3 := t3 j hj2
              simp only [u2_ap]
              simp [hjj, h3]
          · have f1 : (u2 (u2 (u2 (u2 I 18 (I 17 5).toNatClampNeg a) 17 5 (I 17 5 + 1)) 77 (I 17 5).toNatClampNeg a) 71 10 (I 17 5 + 1)) 17 9 = I 17 9 := by simp [u2_ap]
            rw [f1, ha.1 20 (by decide) (by decide), ha.1 78 (by decide) (by decide), ha.2 12 (by decide)]
            exact hR
/-- what a small int is -/
theorem zcases {x : Int32} {n : Nat} (h0 : 0 ≤ x.toInt) (hn : x.toInt < n) : ∃ j, j < n ∧ x = Int32.ofNat j := ⟨x.toInt.toNat, by omega, zof (by omega)⟩
theorem tX4_told {a : Int32} {Q : Int32 → jS → jL → Prop} (h1 : ¬ (0 ≤ a.toInt ∧ a.toInt < 5) → Q (-1) I L) (h2 : 0 ≤ a.toInt → a.toInt < 5 → Q (I 28 a.toInt.toNat) I L) : cI G l mX4_told (d + 1) [.ref 24, .int a] I L Q := by
  refine wX4_told_ok ?_
  unfold wX4_told
  refine ife (fun c => ri (h1 ?_)) (fun c => ife (fun c2 => ri (h1 ?_)) (fun c2 => ⟨?_, ri ?_⟩))
  · rw [zlt, z0] at c; omega
  · rw [zle, zl_5] at c2; omega
  · rw [zlt, z0] at c; rw [zle, zl_5] at c2; rw [zin]; omega
  · rw [zlt, z0] at c; rw [zle, zl_5] at c2; exact h2 (by omega) (by omega)
theorem tX12_led {a : Int32} {Q : Int32 → jS → jL → Prop} (h1 : ¬ (0 ≤ a.toInt ∧ a.toInt < 5) → Q (-1) I L) (h2 : 0 ≤ a.toInt → a.toInt < 5 → Q (I 71 (36 + a.toInt.toNat)) I L) : cI G l mX12_led (d + 1) [.ref 71, .int a] I L Q := by
  refine wX12_led_ok ?_
  unfold wX12_led
  refine ife (fun c => ri ?_) (fun c => ife (fun c => ri ?_) (fun c1 => ife (fun c => ri ?_) (fun c2 => ife (fun c => ri ?_) (fun c3 => ife (fun c => ri ?_) (fun c4 => ri (h1 ?_))))))
  · subst c; exact h2 (by decide) (by decide)
  · subst c; exact h2 (by decide) (by decide)
  · subst c; exact h2 (by decide) (by decide)
  · subst c; exact h2 (by decide) (by decide)
  · subst c; exact h2 (by decide) (by decide)
  · rw [zeq, z0] at c
    rw [zeq, z1] at c1
    rw [zeq, zl_2] at c2
    rw [zeq, zl_3] at c3
    rw [zeq, zl_4] at c4
    omega
theorem T_led {a : Int32} (h : Inv LR k I L) (hk : ∀ r I' L', Inv LR (k + 1) I' L' → K r r I' L') :
    cI G l mX11_led (d + 9) [.ref 0, .int a] I L (fun r I1 L1 => cI G l mX12_led (d + 9) [.ref 71, .int a] I1 L1 (fun r' I2 L2 => K r r' I2 L2)) := by
  have hD : InvD I := h.2.2.2.2.2.1
  refine two (P := fun r I1 L1 => L1 = L ∧ I1 = I ∧ ((¬ (0 ≤ a.toInt ∧ a.toInt < 5) ∧ r = -1) ∨ ((0 ≤ a.toInt ∧ a.toInt < 5) ∧ r = I 28 a.toInt.toNat))) (fun Q hq => ?_) (fun r I1 L1 hp Q hq => ?_) hk
  · refine wX11_led_ok ?_
    unfold wX11_led
    exact tX4_told (fun c => ri (hq _ _ _ ⟨rfl, rfl, Or.inl ⟨c, rfl⟩⟩)) (fun c1 c2 => ri (hq _ _ _ ⟨rfl, rfl, Or.inr ⟨⟨c1, c2⟩, rfl⟩⟩))
  · obtain ⟨rfl, rfl, hp⟩ := hp
    refine tX12_led (fun c => ?_) (fun c1 c2 => ?_)
    · rcases hp with ⟨-, rfl⟩ | ⟨q, -⟩
      · exact hq _ _ h.up
      · exact absurd q c
    · rcases hp with ⟨q, -⟩ | ⟨-, rfl⟩
      · exact absurd ⟨c1, c2⟩ q
      · rw [hD _ (by omega)]
        exact hq _ _ h.up
theorem T_trace {a : Int32} (h : Inv LR k I L) (hk : ∀ r I' L', Inv LR (k + 1) I' L' → K r r I' L') :
    cI G l mX11_trace (d + 9) [.ref 0, .int a] I L (fun r I1 L1 => cI G l mX12_trace (d + 9) [.ref 71, .int a] I1 L1 (fun r' I2 L2 => K r r' I2 L2)) := by
  have hA : InvA I := h.2.2.2.2.2.2.2.1
  refine two (P := fun r I1 L1 => L1 = L ∧ I1 = I ∧ ((¬ (0 ≤ a.toInt ∧ a.toInt < (I 68 3).toInt ∧ a.toInt < 24) ∧ r = -1) ∨ ((0 ≤ a.toInt ∧ a.toInt < (I 68 3).toInt ∧ a.toInt < 24) ∧ r = I 70 a.toInt.toNat))) (fun Q hq => ?_) (fun r I1 L1 hp Q hq => ?_) hk
  · refine wX11_trace_ok ?_
    unfold wX11_trace
    exact tX0_traced (fun c => ri (hq _ _ _ ⟨rfl, rfl, Or.inl ⟨c, rfl⟩⟩)) (fun c => ri (hq _ _ _ ⟨rfl, rfl, Or.inr ⟨c, rfl⟩⟩))
  · obtain ⟨rfl, rfl, hp⟩ := hp
    refine wX12_trace_ok ?_
    unfold wX12_trace
    have e := hA.2.2.2.1
    have key : ¬ (0 ≤ a.toInt ∧ a.toInt < (I1 68 3).toInt ∧ a.toInt < 24) → Q (-1) I1 L1 := fun c => by
      rcases hp with ⟨-, rfl⟩ | ⟨q, -⟩
      · exact hq _ _ h.up
      · exact absurd q c
    refine ife (fun c => ri (key ?_)) (fun c => ife (fun c2 => ri (key ?_)) (fun c2 => ife (fun c3 => ri (key ?_)) (fun c3 => ⟨?_, ri ?_⟩)))
    · rw [zlt, z0] at c; omega
    · rw [e, zle] at c2; omega
    · rw [zle, zl_24] at c3; omega
    · rw [zlt, z0] at c; rw [zle, zl_24] at c3; rw [zin]; omega
    · rw [zlt, z0] at c
      rw [e, zle] at c2
      rw [zle, zl_24] at c3
      rcases hp with ⟨q, -⟩ | ⟨-, rfl⟩
      · exact absurd ⟨by omega, by omega, by omega⟩ q
      · rw [znat, hA.2.2.2.2.2 _ (by omega) (by omega)]
        exact hq _ _ h.up
end SM

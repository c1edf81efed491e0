/-! the reference's waits; waits -/
section W2
variable {G : jG} {l : Launch} {d k : Nat} {F : Option lF} {g : Int} {p : Nat → Nat → Int} {I : jS} {L : jL} {ic : Nat} {c : zC} {st wk : Nat → Int} {mn : Int} {Q : Int32 → jS → jL → Prop} {Qv : jS → jL → Prop} {K : Int32 → Int32 → jS → jL → Prop}
theorem tX12_waitsFor {x y : Int32} {way n : Nat} (hF : Fr G l F g p I) (hI : Im I p st wk mn) (ho : zok wk mn) (hmn : mn ≤ 800000) (hst : zstok st) (hx : x.toInt = n) (hn : (n : Int) < g) (hy : y.toInt = way) (hw : way < 3)
    (h : ∀ (r : Int32) I', r.toInt = zwt p st way n wk mn → ag [79, 80, 83] [13, 14, 15, 16, 17, 20, 24, 30] I I' → Im I' p st (zwc F p st way n (wk, mn)).1 (zwc F p st way n (wk, mn)).2 → I' 71 30 = b01 (0 ≤ zfw p st way n wk mn) → Q r I' L) : cI G l mX12_waitsFor (d + 104) [.ref 71, .int x, .int y] I L Q := by
  refine wX12_waitsFor_ok ?_
  unfold wX12_waitsFor
  have hB : ∀ w : Nat, (zcross F p st way n 0 false (zpass p w wk) (mn + w)).1 = -1 ↔ hldB p st way n wk mn w = true := fun w => by
    unfold hldB
    rw [zcross_over, hldW_t]
  unfold zwc at h
  have hR := fwN_b (B := hldB p st way n wk mn) 61 0
  -- the ice laid back
  have rest : ∀ (Kc : Int32 → Int32 → Int32 → Int32 → jS → jL → Prop) (x4 : Int32) (J : jS), ag [79, 80, 83] [13, 14, 15, 16, 17, 20, 24, 30] I J → (∀ s, s < 24 → J 83 s = I 80 s) →
      (∀ M, ag [79, 80, 83] [13, 14, 15, 16, 17, 20, 24, 30] I M → (∀ s, s < 24 → M 83 s = I 80 s) → Im M p st wk mn → if x4 ≤ (60 : Int32) then wX12_waitsFor_89 G l (d + 103) Kc (fun v I' L' => ∃ r, v = some (.int r) ∧ Q r I' L') x y (I 71 20) x4 x4 M L else wX12_waitsFor_89 G l (d + 103) Kc (fun v I' L' => ∃ r, v = some (.int r) ∧ Q r I' L') x y (I 71 20) x4 (0 : Int32) M L) →
      ∃ e44 : Nat, wX12_waitsFor_44 G l (d + 103) Kc (fun v I' L' => ∃ r, v = some (.int r) ∧ Q r I' L') e44 x y (I 71 20) x4 0 J L := fun Kc x4 J haJ h83 hM => by
    have key : ∀ (m s : Nat) M, s + m = 24 → ag [79, 80, 83] [13, 14, 15, 16, 17, 20, 24, 30] I M → (∀ s, s < 24 → M 83 s = I 80 s) → (∀ t, t < s → M 80 t = I 80 t) → wX12_waitsFor_44 G l (d + 103) Kc (fun v I' L' => ∃ r, v = some (.int r) ∧ Q r I' L') (m + 1) x y (I 71 20) x4 (Int32.ofNat s) M L := by
      intro m
      induction m with
      | zero =>
        intro s M hs haM hm83 hm80
        have : s = 24 := by omega
        subst this
        unfold wX12_waitsFor_44
        rw [if_pos (by decide)]
        have ha2 : ag [79, 80, 83] [13, 14, 15, 16, 17, 20, 24, 30] I (u2 M 71 20 (I 71 20)) := agm haM (by decide)
        refine hM _ ha2 (fun s hs => by rw [u2n (by decide)]; exact hm83 s hs) ⟨fun s hs => ?_, fun s hs => ?_, ?_⟩
        · rw [ha2.m 23, ha2.m 22, ha2.m 21]; exact hI.1 s hs
        · rw [u2n (by decide), hm80 s hs]; exact hI.2.1 s hs
        · rw [u2e]; exact hI.2.2
      | succ m ih =>
        intro s M hs haM hm83 hm80
        unfold wX12_waitsFor_44
        rw [if_neg (by rw [zle, zl_24, zo (by omega)]; omega)]
        refine ⟨by rw [zin, zo (by omega)]; omega, ?_⟩
        rw [zon (by omega), zsucc]
        refine ih (s + 1) _ (by omega) (agu haM (by decide) (by decide)) (fun t ht => by rw [u2n (by decide)]; exact hm83 t ht) (fun t ht => ?_)
        rw [u2_ap]
        by_cases e : t = s
        · rw [if_pos ⟨rfl, e⟩, e]; exact hm83 s (by omega)
        · rw [if_neg (fun z => e z.2)]; exact hm80 t (by omega)
    exact ⟨_, key 24 0 J (by omega) haJ h83 (fun t ht => by omega)⟩
  -- one try
  have one : ∀ (Kc : Int32 → Int32 → Int32 → Int32 → jS → jL → Prop) (x4 : Int32) (w : Nat) M, w ≤ 60 → ag [79, 80, 83] [13, 14, 15, 16, 17, 20, 24, 30] I M → (∀ s, s < 24 → M 83 s = I 80 s) → Im M p st wk mn →
      (∀ N, ag [79, 80, 83] [13, 14, 15, 16, 17, 20, 24, 30] I N → (∀ s, s < 24 → N 83 s = I 80 s) → Im N p st (zcross F p st way n 0 false (zpass p w wk) (mn + w)).2.1 (zcross F p st way n 0 false (zpass p w wk) (mn + w)).2.2 → N 71 30 = b01 (hldB p st way n wk mn w = true) →
        (if b01 (hldB p st way n wk mn w = true) = 0 then (if x4 ≤ (60 : Int32) then Kc x y (I 71 20) (x4 + 1) N L else ∃ r, some (Value.int (Int32.ofNat w)) = some (.int r) ∧ Q r N L) else ∃ r, some (Value.int (Int32.ofNat w)) = some (.int r) ∧ Q r N L)) →
      wX12_waitsFor_89 G l (d + 103) Kc (fun v I' L' => ∃ r, v = some (.int r) ∧ Q r I' L') x y (I 71 20) x4 (Int32.ofNat w) M L := fun Kc x4 w M hw6 haM hm83 hIM hN => by
    unfold wX12_waitsFor_89
    refine tX12_passes (hF.ag haM rfl) hIM ho (zo (k := w) (by omega)) (by omega) (fun M1 ha1 hI1 => ?_)
    have hb1 : ag [79, 80, 83] [13, 14, 15, 16, 17, 20, 24, 30] I M1 := haM.th ha1
    refine tX12_crosses (hF.ag hb1 rfl) hI1 (zpassF hF (by omega) ho hmn) hst hx hn hy hw (fun M2 ha2 hI2 _ => ⟨b01_or, ?_⟩)
    have hb2 : ag [79, 80, 83] [13, 14, 15, 16, 17, 20, 24, 30] I M2 := hb1.th ha2
    rw [b01_iff (hB w)]
    have hau : ag [] [30] M2 (u2 M2 71 30 (b01 (hldB p st way n wk mn w = true))) := agm ag.rf (by decide)
    exact hN _ (hb2.th hau) (fun s hs => by rw [hau.c 83, ha2.c 83, ha1.c 83]; exact hm83 s hs) (hI2.ag hau (by decide) (by decide)) u2e
  have key2 : ∀ (m i : Nat) J, i + m = 61 → ag [79, 80, 83] [13, 14, 15, 16, 17, 20, 24, 30] I J → (∀ s, s < 24 → J 83 s = I 80 s) → (∀ j, j < i → hldB p st way n wk mn j = false) → wX12_waitsFor_34 G l (d + 103) (fun v I' L' => ∃ r, v = some (.int r) ∧ Q r I' L') (m + 1) x y (I 71 20) (Int32.ofNat i) J L := by
    intro m
    induction m with
    | zero =>
      intro i J hi haJ h83 hB0
      have : i = 61 := by omega
      subst this
      unfold wX12_waitsFor_34
      rw [if_neg (by decide)]
      refine rest _ _ J haJ h83 (fun M haM hm83 hIM => ?_)
      rw [if_neg (by decide)]
      have hfw : zfw p st way n wk mn = -1 := by
        unfold zfw
        rcases hR with ⟨h1, -⟩ | ⟨w, h1, h2, h3, h4⟩
        · exact h1
        · rw [hB0 w (by omega)] at h4; exact absurd h4 (by decide)
      refine one _ _ 0 M (by omega) haM hm83 hIM (fun N haN _ hIN h30 => ?_)
      rw [b01_neg (by rw [hB0 0 (by omega)]; decide)] at h30 ⊢
      rw [if_pos rfl, if_neg (by decide)]
      have hw0 : zwt p st way n wk mn = 0 := by unfold zwt; rw [hfw]; decide
      refine ri (h _ _ (by rw [hw0]; rfl) haN ?_ (by rw [h30, hfw, b01_neg (by decide)]))
      simp only
      rw [hw0]
      exact hIN
    | succ m ih =>
      intro i J hi haJ h83 hB0
      unfold wX12_waitsFor_34
      rw [if_neg (by rw [zlt, zl_61, zo (by omega)]; omega)]
      refine rest _ _ J haJ h83 (fun M haM hm83 hIM => ?_)
      have h60 : Int32.ofNat i ≤ (60 : Int32) := by rw [zle, zl_60, zo (by omega)]; omega
      rw [if_pos h60]
      refine one _ _ i M (by omega) haM hm83 hIM (fun N haN hn83 hIN h30 => ?_)
      refine ifz (fun q => ?_) (fun q => ?_)
      · rw [if_pos h60, zsucc]
        refine ih (i + 1) N (by omega) haN hn83 (fun j hj => ?_)
        by_cases e : j = i
        · rw [e]; simpa using q
        · exact hB0 j (by omega)
      · have hfw : zfw p st way n wk mn = i := by
          unfold zfw
          have low : ∀ m' i', i' + m' = 61 → i' ≤ i → (∀ j, j < i → hldB p st way n wk mn j = false) → fwN (hldB p st way n wk mn) m' i' = i := by
            intro m'
            induction m' with
            | zero => intro i' h1 h2; omega
            | succ m' ih' =>
              intro i' h1 h2 h3
              unfold fwN
              by_cases e : i' = i
              · rw [e, if_pos q]
              · rw [if_neg (by rw [h3 i' (by omega)]; decide)]
                exact ih' (i' + 1) (by omega) (by omega) h3
          exact low 61 0 (by omega) (by omega) hB0
        have hw0 : zwt p st way n wk mn = i := by unfold zwt; rw [hfw]; omega
        refine ri (h _ _ (by rw [hw0, zo (by omega)]) haN ?_ (by rw [h30, b01_pos q, hfw, b01_pos (by omega)]))
        simp only
        rw [hw0]
        exact hIN
  have key1 : ∀ m k, k + m = 24 → wX12_waitsFor_2 G l (d + 103) (fun v I' L' => ∃ r, v = some (.int r) ∧ Q r I' L') (m + 1) x y (Int32.ofNat k) (cpk I 83 80 k) L := by
    intro m
    induction m with
    | zero =>
      intro k hk
      have : k = 24 := by omega
      subst this
      unfold wX12_waitsFor_2
      rw [if_pos (by decide), cpk_ne (show (71 : Nat) ≠ 83 by decide)]
      exact ⟨_, key2 61 0 _ (by omega) (agc ag.rf (by decide) (by decide)) (fun s hs => cpk_eq hs) (fun j hj => by omega)⟩
    | succ m ih =>
      intro k hk
      unfold wX12_waitsFor_2
      rw [if_neg (by rw [zle, zo (by omega), zl_24]; omega)]
      refine ⟨by rw [zin, zo (by omega)]; omega, ?_⟩
      rw [zon (by omega), zsucc, cpk_src (by decide), cpk_succ (by decide)]
      exact ih (k + 1) (by omega)
  have := key1 24 0 (by omega)
  rw [cpk_zero] at this
  exact ⟨_, this⟩
theorem T_waits {a b c : Int32} (h : Inv (LRl G l) k I L) (hk5 : k ≤ 512) (hk : ∀ r I' L', Inv (LRl G l) (k + 1) I' L' → K r r I' L') :
    cI G l mX11_waits (d + 109) [.ref 0, .int a, .int b, .int c] I L (fun r I1 L1 => cI G l mX12_waits (d + 109) [.ref 71, .int a, .int b, .int c] I1 L1 (fun r' I2 L2 => K r r' I2 L2)) := by
  obtain ⟨F, p, hF, hp⟩ := h.fr
  obtain ⟨hP, hC, hI, hT, hR, hD, hG, hA, hS, hM⟩ := id h
  have hz := dz h hk5
  have hmn := dmn h hk5
  have hg := hF.1
  have i25 : isIce 25 := by unfold isIce; decide
  have i32 : isIce 32 := by unfold isIce; decide
  have hlim := rdN_le (f := shf8 L a.toInt.toNat) (g := (I 1 1).toInt) (min 10 (I 59 a.toInt.toNat).toInt.toNat) 0
  have hord := ord_g (g := (I 1 1).toInt) (e := 0) (f := shf8 L a.toInt.toNat) (m := min 10 (I 59 a.toInt.toNat).toInt.toNat) hg.1
  have hrd := rdN_g (f := shf8 L a.toInt.toNat) (g := (I 1 1).toInt) (min 10 (I 59 a.toInt.toNat).toInt.toNat) 0
  refine scr2 h (shV ((0 ≤ a.toInt ∧ a.toInt < 6) ∧ (0 ≤ b.toInt ∧ b.toInt < 3) ∧ -2 ≤ c.toInt) (I 89 a.toInt.toNat).toInt
    (if ((rdN (shf8 L a.toInt.toNat) (I 1 1).toInt (min 10 (I 59 a.toInt.toNat).toInt.toNat) 0 : Nat) : Int) ≤ c.toInt then -2 else if c.toInt = -2 then (zws F p (p 0) b.toInt.toNat (fun i => (shf8 L a.toInt.toNat i).toNat) (dwk I, (I 25 2).toInt) (rdN (shf8 L a.toInt.toNat) (I 1 1).toInt (min 10 (I 59 a.toInt.toNat).toInt.toNat) 0)).2 else if c.toInt = -1 then zwm F p (p 0) b.toInt.toNat (fun i => (shf8 L a.toInt.toNat i).toNat) (dwk I, (I 25 2).toInt) (rdN (shf8 L a.toInt.toNat) (I 1 1).toInt (min 10 (I 59 a.toInt.toNat).toInt.toNat) 0) else zwi F p (p 0) b.toInt.toNat (fun i => (shf8 L a.toInt.toNat i).toNat) (dwk I, (I 25 2).toInt) c.toInt.toNat)) (fun Q hq => ?_) (fun I1 ha Q hq => ?_) hk
  · refine wX11_waits_ok ?_
    unfold wX11_waits
    refine tX11_isShelf (ifz (fun c1 => ri (hq _ _ (by rw [shV_no (fun q => c1 q.1)]; rfl) ag.rf)) (fun c1 => tX11_isWay (ifz (fun c2 => ri (hq _ _ (by rw [shV_no (fun q => c2 q.2.1)]; rfl) ag.rf)) (fun c2 => ife (fun c3 => ?_) (fun c3 => ri (hq _ _ ?_ ag.rf))))))
    · rw [zle, zl_m2] at c3
      have ok : (0 ≤ a.toInt ∧ a.toInt < 6) ∧ (0 ≤ b.toInt ∧ b.toInt < 3) ∧ -2 ≤ c.toInt := ⟨c1, c2, c3⟩
      refine tX9_bytesRef hS hA.2.1.2 c1 ?_
      by_cases h50 : (I 89 a.toInt.toNat).toInt = 50
      · rw [bsV_50 h50, if_pos rfl]
        rw [shV_50 ok h50] at hq
        have hB := hS.byr hA.2.1.2 (by omega) h50
        refine tX10_readOrder (e := a.toInt.toNat) (mo := 10) hF hB (by omega) (by decide) (by decide) (fun I4 ha4 hO4 => ?_)
        have hod : ∀ i, i < rdN (shf8 L a.toInt.toNat) (I 1 1).toInt (min 10 (I 59 a.toInt.toNat).toInt.toNat) 0 → (((fun i => (shf8 L a.toInt.toNat i).toNat) i : Nat) : Int) < (I 1 1).toInt := hord
        generalize rdN (shf8 L a.toInt.toNat) (I 1 1).toInt (min 10 (I 59 a.toInt.toNat).toInt.toNat) 0 = n at *
        generalize (fun i => (shf8 L a.toInt.toNat i).toNat) = o at *
        have hb4 : ag scC [] I I4 := ha4.up rfl rfl
        refine ife (fun q => ?_) (fun q => ri (hq _ _ ?_ hb4))
        · rw [zlt, hO4.1] at q
          rw [if_neg (by omega)] at hq
          refine tX3_follow i32 i25 (by decide) (hF.ag hb4 rfl) (Ic_deed.ag i25 hb4 (by decide) (by decide) (by decide)) (fun I5 ha5 hI5 => ?_)
          have hb5 : ag scC [] I I5 := hb4.cl ha5
          refine tX10_walkWaiting (hF.ag hb5 rfl) (hO4.ag ha5 rfl rfl) hod hI5 hz (by omega) (zst0 hF) (way := b.toInt.toNat) (by omega) (by omega) (fun I6 ha6 hO6 h36 hI6 => ?_)
          have hb6 : ag scC [] I I6 := hb5.cl ha6
          refine ife (fun q2 => ri (hq _ _ ?_ hb6)) (fun q2 => ife (fun q3 => ?_) (fun q3 => ?_))
          · rw [zeq, zl_m2] at q2
            rw [if_pos q2]; exact hI6.2.2
          · rw [zeq, zl_m2] at q2
            rw [zeq, zl_m1] at q3
            rw [if_neg q2, if_pos q3] at hq
            exact tX10_allWaits hO6 h36 (fun r hr => ri (hq _ _ hr hb6))
          · rw [zeq, zl_m2] at q2
            rw [zeq, zl_m1] at q3
            rw [if_neg q2, if_neg q3] at hq
            exact tX10_waitOf (i := c.toInt.toNat) hO6 (by omega) (by omega) (ri (hq _ _ (h36 _ (by omega)) hb6))
        · rw [zlt, hO4.1] at q
          rw [if_pos (by omega)]; rfl
      · rw [if_neg (bsV_n h50).1]
        exact ri (hq _ _ (bsV_z ok h50) ag.rf)
    · rw [zle, zl_m2] at c3
      rw [shV_no (fun q => c3 q.2.2)]; rfl
  · have e89 : I1 89 = I 89 := ha.c 89
    refine wX12_waits_ok ?_
    unfold wX12_waits
    by_cases c1 : 0 ≤ a.toInt ∧ a.toInt < 6
    case neg =>
      refine tX12_bytesNo c1 ?_
      rw [if_pos rfl]
      exact ri (hq _ _ (by rw [shV_no (fun q => c1 q.1)]; rfl) ag.rf)
    refine tX12_bytesIs c1 ?_
    have hm1 : ¬ bsV (I1 89 a.toInt.toNat).toInt 1 = -1 := by
      by_cases h50 : (I1 89 a.toInt.toNat).toInt = 50
      · rw [bsV_50 h50]; decide
      · exact (bsV_n h50).2.2
    rw [if_neg hm1]
    refine tX12_isWay (ifz (fun c2 => ri (hq _ _ (by rw [z64] at c2; rw [shV_no (fun q => c2 q.2.1)]; rfl) ag.rf)) (fun c2 => ife (fun c3 => ?_) (fun c3 => ri (hq _ _ ?_ ag.rf))))
    · rw [z64] at c2
      rw [zle, zl_m2] at c3
      have ok : (0 ≤ a.toInt ∧ a.toInt < 6) ∧ (0 ≤ b.toInt ∧ b.toInt < 3) ∧ -2 ≤ c.toInt := ⟨c1, c2, c3⟩
      refine tX12_bytesIs c1 ?_
      rw [e89]
      by_cases h50 : (I 89 a.toInt.toNat).toInt = 50
      · rw [bsV_50 h50, if_pos (by decide)]
        rw [shV_50 ok h50] at hq
        have hB := hS.byr hA.2.1.2 (by omega) h50
        refine tX12_begins1 ?_
        have hb1 := ag_begin (J := I1)
        have hm : ag scM tcM I1 (u2 (cpk I1 80 76 24) 71 20 (I1 71 8)) := hb1.up rfl rfl
        have hall : ag (scC ++ scM) tcM I (u2 (cpk I1 80 76 24) 71 20 (I1 71 8)) := ha.th hm
        have e59 : (u2 (cpk I1 80 76 24) 71 20 (I1 71 8)) 59 = I 59 := hall.c 59
        have hIm0 := Im_begin (F := F) (g := (I 1 1).toInt) (p := p) h ha (by decide)
        refine tX12_orderedOf (e := a.toInt.toNat) (hF.ag hall rfl) (hB.ag hall rfl) (by omega) (fun r6 h6 => ?_)
        rw [e59] at h6
        generalize u2 (cpk I1 80 76 24) 71 20 (I1 71 8) = J0 at *
        generalize rdN (shf8 L a.toInt.toNat) (I 1 1).toInt (min 10 (I 59 a.toInt.toNat).toInt.toNat) 0 = n at *
        generalize ho : (fun i => (shf8 L a.toInt.toNat i).toNat) = o at *
        have hbw : b.toInt = (b.toInt.toNat : Nat) := by omega
        have hw3 : b.toInt.toNat < 3 := by omega
        generalize b.toInt.toNat = way at *
        have hoi : ∀ i, i < n → shf8 L a.toInt.toNat i = o i := fun i hi => by
          have := hrd i (by omega) hi
          rw [← ho]
          simp only
          omega
        have hog : ∀ i, i < n → (o i : Int) < (I 1 1).toInt := fun i hi => by
          have := hrd i (by omega) hi
          rw [hoi i hi] at this
          exact this.2
        have key : ∀ (m i : Nat) J (x5 x6 : Int32), i + m = n → ag scM tcM I1 J → Im J p (p 0) (zws F p (p 0) way o (dwk I, (I 25 2).toInt) i).1 (zws F p (p 0) way o (dwk I, (I 25 2).toInt) i).2 → x5.toInt = zwm F p (p 0) way o (dwk I, (I 25 2).toInt) i → x6.toInt = (if 0 ≤ c.toInt ∧ c.toInt < i then zwi F p (p 0) way o (dwk I, (I 25 2).toInt) c.toInt.toNat else -2) → wX12_waits_60 G l (d + 108) (fun v I' L' => ∃ r, v = some (.int r) ∧ Q r I' L') (m + 1) a b c r6 x5 x6 (Int32.ofNat i) J L := by
          intro m
          induction m with
          | zero =>
            intro i J x5 x6 hi haJ hIJ h5 h6'
            have : i = n := by omega
            subst this
            unfold wX12_waits_60
            rw [if_pos (by rw [zle, h6, zo (by omega)]; omega)]
            refine ife (fun q => ife (fun q2 => ri (hq _ _ ?_ haJ)) (fun q2 => ri (hq _ _ ?_ haJ))) (fun q => ri (hq _ _ ?_ haJ))
            · rw [zlt, z0] at q
              rw [zeq, zl_m1] at q2
              rw [if_neg (by omega), if_neg (by omega), if_pos q2]; exact h5
            · rw [zlt, z0] at q
              rw [zeq, zl_m1] at q2
              rw [if_neg (by omega), if_pos (by omega)]; exact hIJ.2.2
            · rw [zlt, z0] at q
              rw [h6']
              by_cases q3 : (i : Int) ≤ c.toInt
              · rw [if_neg (by omega), if_pos q3]
              · rw [if_pos (by omega), if_neg q3, if_neg (by omega), if_neg (by omega)]
          | succ m ih =>
            intro i J x5 x6 hi haJ hIJ h5 h6'
            have hallJ : ag (scC ++ scM) tcM I J := ha.th haJ
            have hFJ := hF.ag hallJ rfl
            obtain ⟨k1, k2, k3⟩ := zws_ok hF (st := p 0) (o := o) (S := (dwk I, (I 25 2).toInt)) hw3 hz (by simp only; omega) i (by omega) (fun j hj => hog j (by omega))
            have k3 : (zws F p (p 0) way o (dwk I, (I 25 2).toInt) i).2 ≤ (I 25 2).toInt + 78 * i := k3
            have hb := zwm_b (F := F) (p := p) (st := p 0) (way := way) (o := o) (S := (dwk I, (I 25 2).toInt)) i
            have hc := zwt_b (p := p) (st := p 0) (way := way) (n := o i) (wk := (zws F p (p 0) way o (dwk I, (I 25 2).toInt) i).1) (mn := (zws F p (p 0) way o (dwk I, (I 25 2).toInt) i).2)
            have hzi : zwi F p (p 0) way o (dwk I, (I 25 2).toInt) i = zwt p (p 0) way (o i) (zws F p (p 0) way o (dwk I, (I 25 2).toInt) i).1 (zws F p (p 0) way o (dwk I, (I 25 2).toInt) i).2 := rfl
            unfold wX12_waits_60
            rw [if_neg (by rw [zle, h6, zo (by omega)]; omega)]
            refine tX12_goerAt (e := a.toInt.toNat) (hB.ag hallJ rfl) (by omega) (zo (k := i) (by omega)) (by omega) (fun r7 h7 => ?_)
            rw [hoi i (by omega)] at h7
            refine tX12_waitsFor hFJ hIJ ⟨k1, k2, by omega⟩ (by omega) (zst0 hF) h7 (hog i (by omega)) hbw hw3 (fun r8 J8 h8 ha8 hI8 _ => ?_)
            have ha9 : ag scM tcM I1 J8 := haJ.ml ha8
            have h5' : (x5 + r8).toInt = zwm F p (p 0) way o (dwk I, (I 25 2).toInt) (i + 1) := by
              rw [zadd (by rw [h5, h8]; omega) (by rw [h5, h8]; omega), h5, h8]
              rfl
            rw [zsucc]
            refine ife (fun q => ?_) (fun q => ?_)
            · rw [zeq, zo (by omega)] at q
              refine ih (i + 1) J8 _ _ (by omega) ha9 hI8 h5' ?_
              have : c.toInt.toNat = i := by omega
              rw [if_pos (by omega), this, hzi]; exact h8
            · rw [zeq, zo (by omega)] at q
              refine ih (i + 1) J8 _ _ (by omega) ha9 hI8 h5' ?_
              rw [h6']
              by_cases q3 : 0 ≤ c.toInt ∧ c.toInt < i
              · rw [if_pos q3, if_pos (by omega)]
              · rw [if_neg q3, if_neg (by omega)]
        exact ⟨_, key n 0 J0 0 (-2) (by omega) hm hIm0 rfl (by rw [if_neg (by omega)]; rfl)⟩
      · have := (bsV_n (x := 1) h50).2.1
        rw [if_neg (by rw [zle, z0]; omega)]
        refine tX12_bytesIs c1 (ri ?_)
        rw [e89]
        exact hq _ _ (bsV_z ok h50) ag.rf
    · rw [zle, zl_m2] at c3
      rw [shV_no (fun q => c3 q.2.2)]; rfl
end W2

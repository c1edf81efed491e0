/-! over, bears -/
section OV
variable {G : jG} {l : Launch} {d k : Nat} {F : Option lF} {g : Int} {p : Nat → Nat → Int} {I : jS} {L : jL} {st wk : Nat → Int} {mn : Int} {Q : Int32 → jS → jL → Prop} {Qv : jS → jL → Prop} {K : Int32 → Int32 → jS → jL → Prop}
theorem tX9_bytesRef {x : Int32} (hS : InvS I L) (hb : (I 68 2).toInt ≤ 50) (hx : 0 ≤ x.toInt ∧ x.toInt < 6) (h : Q (bsV (I 89 x.toInt.toNat).toInt 0) I L) : cI G l mX9_bytesRefusal (d + 3) [.ref 57, .int x] I L Q := by
  obtain ⟨n1, n2, n3, n4⟩ := InvS_neg hS hb (e := x.toInt.toNat) (by omega)
  unfold bsV at h
  refine wX9_bytesRefusal_ok ?_
  unfold wX9_bytesRefusal
  refine tX9_isEmpty (ifz (fun c => tX9_isBytes (ifz (fun c2 => ri ?_) (fun c2 => ri ?_))) (fun c => ri ?_))
  · rw [if_neg (fun q => c (Or.inr (n1.mpr q))), if_neg (fun q => c2 ⟨hx, n4.mpr q⟩)] at h; exact h
  · rw [if_neg (fun q => c (Or.inr (n1.mpr q))), if_pos (n4.mp c2.2)] at h; exact h
  · rcases c with c | c
    · exact absurd hx c
    · rw [if_pos (n1.mp c)] at h; exact h
theorem tX12_bytesIs {x : Int32} (hx : 0 ≤ x.toInt ∧ x.toInt < 6) (h : Q (bsV (I 89 x.toInt.toNat).toInt 1) I L) : cI G l mX12_bytesIs (d + 3) [.ref 71, .int x] I L Q := by
  unfold bsV at h
  refine wX12_bytesIs_ok ?_
  unfold wX12_bytesIs
  refine tX12_isShelf (ifz (fun c => absurd hx c) (fun _ => ⟨by rw [zin]; omega, ?_⟩))
  rw [znat]
  refine ife (fun c => ife (fun c2 => ri ?_) (fun c2 => ri ?_)) (fun c => ri ?_)
  · rw [zle, z0] at c
    rw [zeq, zl_50] at c2
    rw [if_neg (by omega), if_pos c2] at h; exact h
  · rw [zle, z0] at c
    rw [zeq, zl_50] at c2
    rw [if_neg (by omega), if_neg c2] at h; exact h
  · rw [zle, z0] at c
    rw [if_pos (by omega)] at h; exact h
theorem tX12_bytesNo {x : Int32} (hx : ¬ (0 ≤ x.toInt ∧ x.toInt < 6)) (h : Q (-1) I L) : cI G l mX12_bytesIs (d + 3) [.ref 71, .int x] I L Q := by
  refine wX12_bytesIs_ok ?_
  unfold wX12_bytesIs
  exact tX12_isShelf (ifz (fun c => ri h) (fun c => absurd c hx))
theorem tX12_goerAt {x y : Int32} {e i : Nat} (hB : ByR I L e) (hx : x.toInt = e) (hy : y.toInt = i) (hi : i < 60) (h : ∀ r : Int32, r.toInt = shf8 L e i → Q r I L) : cI G l mX12_goerAt (d + 1) [.ref 71, .int x, .int y] I L Q := by
  have he := hB.1
  have e1 := z60a hx he hy (by omega)
  refine wX12_goerAt_ok ?_
  unfold wX12_goerAt
  refine ⟨by rw [zin, e1]; omega, ri (h _ ?_)⟩
  have e2 : (60 * x + y).toNatClampNeg = 60 * e + i := by rw [znat, e1]; omega
  have hb := hB.2.2.2.2.2 i hi
  rw [e2, hb.1]
  exact b32 hb.2
theorem tX12_orderedOf {x : Int32} {e : Nat} (hF : Fr G l F g p I) (hB : ByR I L e) (hx : x.toInt = e) (h : ∀ r : Int32, r.toInt = (rdN (shf8 L e) g (min 10 (I 59 e).toInt.toNat) 0 : Nat) → Q r I L) : cI G l mX12_orderedOf (d + 3) [.ref 71, .int x] I L Q := by
  have he := hB.1
  have hg := hF.1
  have hs := hB.2.2.2.2.1
  have hnx : x.toNatClampNeg = e := by rw [znat]; omega
  refine wX12_orderedOf_ok ?_
  unfold wX12_orderedOf
  generalize hlm : min 10 (I 59 e).toInt.toNat = lm at h
  generalize hRd : rdN (shf8 L e) g lm 0 = Rd at h
  have key : ∀ m i, i + m = lm → rdN (shf8 L e) g m i = Rd → wX12_orderedOf_2 G l (d + 2) (fun v I' L' => ∃ r, v = some (.int r) ∧ Q r I' L') (m + 1) x (Int32.ofNat i) I L := by
    intro m
    induction m with
    | zero =>
      intro i hi hr
      unfold rdN at hr
      unfold wX12_orderedOf_2
      refine ife (fun q => ri (h _ (by rw [zo (by omega), hr]))) (fun q => ⟨by rw [zin]; omega, ?_⟩)
      rw [zle, zl_10, zo (by omega)] at q
      rw [hnx, hB.2.2.2.1, if_pos (by rw [zle, zo (by omega)]; omega)]
      exact ri (h _ (by rw [zo (by omega), hr]))
    | succ m ih =>
      intro i hi hr
      unfold wX12_orderedOf_2
      rw [if_neg (by rw [zle, zl_10, zo (by omega)]; omega)]
      refine ⟨by rw [zin]; omega, ?_⟩
      rw [hnx, hB.2.2.2.1, if_neg (by rw [zle, zo (by omega)]; omega)]
      have e1 := z60a hx he (zo (k := i) (by omega)) (by omega)
      have e2 : (60 * x + Int32.ofNat i).toNatClampNeg = 60 * e + i := by rw [znat, e1]; omega
      have hb := hB.2.2.2.2.2 i (by omega)
      refine ⟨by rw [zin, e1]; omega, ?_⟩
      rw [e2, hb.1, zsucc]
      unfold rdN at hr
      refine tX12_isGoer (by rw [hF.2.2.1]; omega) (ifz (fun c => ri (h _ ?_)) (fun c => ih (i + 1) (by omega) ?_))
      · rw [hF.2.2.1] at c
        rw [if_neg (show ¬ (0 ≤ shf8 L e i ∧ shf8 L e i < g) from c)] at hr
        rw [zo (by omega), hr]
      · rw [hF.2.2.1] at c
        rw [if_pos (show 0 ≤ shf8 L e i ∧ shf8 L e i < g from c)] at hr
        exact hr
  exact ⟨_, key lm 0 (by omega) hRd⟩
/-- the reference walks an order from a row -/
theorem tX12_overOf {x y z : Int32} {way n e : Nat} (hF : Fr G l F g p I) (hB : ByR I L e) (hx : x.toInt = e) (hz' : z.toInt = n) (hn : n ≤ 10) (ho : ∀ i, i < n → 0 ≤ shf8 L e i ∧ shf8 L e i < g) (hI : Im I p st wk mn) (hz : zok wk mn) (hmn : mn ≤ 100000) (hst : zstok st) (hy : y.toInt = way) (hw : way < 3)
    (h : ∀ (r : Int32) I', ag scM tcM I I' → r.toInt = (zrun F p st way (fun i => (shf8 L e i).toNat) n 0 (0, -2, wk, mn)).1 → (I' 71 25).toInt = (zrun F p st way (fun i => (shf8 L e i).toNat) n 0 (0, -2, wk, mn)).2.1 → Im I' p st (zrun F p st way (fun i => (shf8 L e i).toNat) n 0 (0, -2, wk, mn)).2.2.1 (zrun F p st way (fun i => (shf8 L e i).toNat) n 0 (0, -2, wk, mn)).2.2.2 → Q r I' L) : cI G l mX12_overOf (d + 104) [.ref 71, .int x, .int y, .int z] I L Q := by
  refine wX12_overOf_ok ?_
  unfold wX12_overOf
  generalize hod : (fun i => (shf8 L e i).toNat) = o at h
  have hov : ∀ i, i < n → shf8 L e i = o i ∧ (o i : Int) < g := fun i hi => by
    have := ho i hi
    rw [← hod]
    simp only
    omega
  generalize hR : zrun F p st way o n 0 (0, -2, wk, mn) = R at h
  have key : ∀ m i J S (x4 : Int32), i + m = n → ag scM tcM I J → x4.toInt = S.1 → (J 71 25).toInt = S.2.1 → Im J p st S.2.2.1 S.2.2.2 → zRok mn i S → zrun F p st way o m i S = R → wX12_overOf_12 G l (d + 103) (fun v I' L' => ∃ r, v = some (.int r) ∧ Q r I' L') (m + 1) x y z x4 (Int32.ofNat i) J L := by
    intro m
    induction m with
    | zero =>
      intro i J S x4 hi ha h4 h25 hJ hS hr
      have hr' : S = R := hr
      subst hr'
      unfold wX12_overOf_12
      rw [if_pos (by rw [zle, hz', zo (by omega)]; omega)]
      exact ri (h _ J ha h4 h25 hJ)
    | succ m ih =>
      intro i J S x4 hi ha h4 h25 hJ hS hr
      have hFJ := hF.ag ha rfl
      have hBJ := hB.ag ha rfl
      unfold wX12_overOf_12
      rw [if_neg (by rw [zle, hz', zo (by omega)]; omega)]
      refine tX12_goerAt hBJ hx (zo (by omega)) (by omega) (fun r1 h1 => ?_)
      have hoi := hov i (by omega)
      have hzS : zok S.2.2.1 S.2.2.2 := ⟨hS.2.2.1, hS.2.2.2.1, by have := hS.2.2.2.2; omega⟩
      refine tX12_crosses hFJ hJ hzS hst (by rw [h1]; exact hoi.1) hoi.2 hy hw (fun J2 ha2 hJ2 _ => ?_)
      have hnext := zstp_ok (st := st) hF (B := mn) ⟨hz.2.1, hmn⟩ hw hoi.2 (by omega) hS
      have hr' : zrun F p st way o m (i + 1) (zstp F p st way (o i) i S) = R := hr
      have hs1 : (zstp F p st way (o i) i S).1 = S.1 + (if (zcross F p st way (o i) 0 false S.2.2.1 S.2.2.2).1 = -1 then 1 else 0) := rfl
      have hs2 : (zstp F p st way (o i) i S).2.1 = if (zcross F p st way (o i) 0 false S.2.2.1 S.2.2.2).1 ≠ -1 ∧ S.2.1 < 0 then (i : Int) else S.2.1 := rfl
      have hs3 : (zstp F p st way (o i) i S).2.2 = (zcross F p st way (o i) 0 false S.2.2.1 S.2.2.2).2 := rfl
      rw [← hs3] at hJ2
      generalize zstp F p st way (o i) i S = S' at *
      have ha3 : ag scM tcM I J2 := ha.ml ha2
      have e25 : J2 71 25 = J 71 25 := ha2.m 25
      have hSb := hS.1
      have im' : ∀ v : Int32, Im (u2 J2 71 25 v) p st S'.2.2.1 S'.2.2.2 := fun v => hJ2.ag (S := []) (T := [25]) (agm ag.rf (by decide)) (by decide) (by decide)
      have next : ∀ (t : Int32) (v : Int32), t.toInt = S'.1 → v.toInt = S'.2.1 → wX12_overOf_12 G l (d + 103) (fun v I' L' => ∃ r, v = some (.int r) ∧ Q r I' L') (m + 1) x y z t (Int32.ofNat i + 1) (u2 J2 71 25 v) L := fun t v ht hv => by
        rw [zsucc]
        exact ih (i + 1) _ S' t (by omega) (ha3.ml (S2 := []) (T2 := [25]) (agm ag.rf (by decide))) ht (by rw [u2e]; exact hv) (im' v) hnext hr'
      refine ifz (fun q => ?_) (fun q => ?_)
      · rw [if_neg q] at hs1
        unfold wX12_overOf_44
        rw [b01_neg q, if_pos rfl]
        have ht : (x4 + 0).toInt = S'.1 := by rw [Int32.add_zero, h4, hs1]; omega
        refine ife (fun q2 => ?_) (fun q2 => ?_)
        · rw [e25, zle, z0, h25] at q2
          rw [if_neg (by omega)] at hs2
          unfold wX12_overOf_65
          exact next _ _ ht (by rw [e25, h25, hs2])
        · rw [e25, zle, z0, h25] at q2
          rw [if_pos ⟨q, by omega⟩] at hs2
          exact next _ _ ht (by rw [zo (by omega), hs2])
      · rw [if_pos q] at hs1
        rw [if_neg (fun z => z.1 q)] at hs2
        unfold wX12_overOf_44
        rw [b01_pos q, if_neg (by decide)]
        unfold wX12_overOf_65
        exact next _ _ (by rw [zadd (by rw [z1, h4]; omega) (by rw [z1, h4]; omega), z1, h4, hs1]) (by rw [e25, h25, hs2])
  exact ⟨_, key n 0 (u2 I 71 25 (-2)) (0, -2, wk, mn) 0 (by omega) (agm ag.rf (by decide)) rfl (by rw [u2e]; rfl) (hI.ag (S := []) (T := [25]) (agm ag.rf (by decide)) (by decide) (by decide)) ⟨by simp, Or.inl rfl, hz.1, hz.2.1, by simp⟩ hR⟩
theorem dmn (h : Inv (LRl G l) k I L) (hk : k ≤ 512) : (I 25 2).toInt ≤ 20000 := by
  have := h.2.2.1.2.2.2
  omega
/-- what an order of a row gives -/
def ordR (F : Option lF) (p : Nat → Nat → Int) (g : Int) (I : jS) (L : jL) (e way : Nat) : zR := zrun F p (p 0) way (fun i => (shf8 L e i).toNat) (rdN (shf8 L e) g (min 10 (I 59 e).toInt.toNat) 0) 0 (0, -2, dwk I, (I 25 2).toInt)
theorem ord_g {e : Nat} {f : Nat → Int} (hg : 0 ≤ g) {m : Nat} : ∀ i, i < rdN f g m 0 → ((f i).toNat : Int) < g := fun i hi => by
  have := rdN_g m 0 i (by omega) hi
  omega
theorem tX11_runOrder {x y : Int32} {way e : Nat} (hF : Fr G l F g p I) (hB : ByR I L e) (hx : x.toInt = e) (hz : zok (dwk I) (I 25 2).toInt) (hmn : (I 25 2).toInt ≤ 100000) (hy : y.toInt = way) (hw : way < 3)
    (h : ∀ I', ag scC [] I I' → (I' 31 6).toInt = (ordR F p g I L e way).1 → (I' 31 7).toInt = (ordR F p g I L e way).2.1 → Ic 32 I' (p 0) (ordR F p g I L e way).2.2.1 (ordR F p g I L e way).2.2.2 → Qv I' L) : cV G l mX11_runOrder (d + 7) [.ref 0, .int x, .int y] I L Qv := by
  have hg := hF.1
  have hle := rdN_le (f := shf8 L e) (g := g) (min 10 (I 59 e).toInt.toNat) 0
  refine wX11_runOrder_ok (Q := fun v I' L' => v = none ∧ Qv I' L') ?_
  unfold wX11_runOrder
  refine tX10_readOrder (mo := 10) hF hB hx (by decide) (by decide) (fun I1 ha1 hO1 => ?_)
  have i25 : isIce 25 := by unfold isIce; decide
  have i32 : isIce 32 := by unfold isIce; decide
  refine tX3_follow i32 i25 (by decide) (hF.ag ha1 rfl) (Ic_deed.ag i25 ha1 (by decide) (by decide) (by decide)) (fun I2 ha2 hI2 => ?_)
  have ha12 : ag [31, 32, 33, 34, 35] [] I I2 := ha1.th ha2
  refine tX10_walk (hF.ag ha12 rfl) (hO1.ag ha2 rfl rfl) (ord_g (e := e) hg.1) hI2 hz hmn (zst0 hF) hy hw (fun I3 ha3 hO3 h6 h7 hI3 => ⟨rfl, ?_⟩)
  exact h I3 (ha12.th ha3) h6 h7 hI3
theorem T_over {a b c : Int32} (h : Inv (LRl G l) k I L) (hk5 : k ≤ 512) (hk : ∀ r I' L', Inv (LRl G l) (k + 1) I' L' → K r r I' L') :
    cI G l mX11_over (d + 109) [.ref 0, .int a, .int b, .int c] I L (fun r I1 L1 => cI G l mX12_over (d + 109) [.ref 71, .int a, .int b, .int c] I1 L1 (fun r' I2 L2 => K r r' I2 L2)) := by
  obtain ⟨F, p, hF, hp⟩ := h.fr
  obtain ⟨hP, hC, hI, hT, hR, hD, hG, hA, hS, hM⟩ := id h
  have hz := dz h hk5
  have hmn := dmn h hk5
  have hg := hF.1
  have hR0 : ∀ (hx : 0 ≤ a.toInt ∧ a.toInt < 6) (hw : 0 ≤ b.toInt ∧ b.toInt < 3), zRok (I 25 2).toInt (0 + rdN (shf8 L a.toInt.toNat) (I 1 1).toInt (min 10 (I 59 a.toInt.toNat).toInt.toNat) 0) (ordR F p (I 1 1).toInt I L a.toInt.toNat b.toInt.toNat) := fun hx hw => by
    have hle := rdN_le (f := shf8 L a.toInt.toNat) (g := (I 1 1).toInt) (min 10 (I 59 a.toInt.toNat).toInt.toNat) 0
    exact zrun_ok (B := (I 25 2).toInt) hF ⟨hz.2.1, by omega⟩ (by omega) _ 0 _ (by omega) (fun j hj => ord_g (e := 0) (m := min 10 (I 59 a.toInt.toNat).toInt.toNat) hg.1 j (by omega)) ⟨by simp, Or.inl rfl, hz.1, hz.2.1, by simp⟩
  have hlim := rdN_le (f := shf8 L a.toInt.toNat) (g := (I 1 1).toInt) (min 10 (I 59 a.toInt.toNat).toInt.toNat) 0
  refine scr2 h (shV ((0 ≤ a.toInt ∧ a.toInt < 6) ∧ (0 ≤ b.toInt ∧ b.toInt < 3) ∧ (0 ≤ c.toInt ∧ c.toInt ≤ 2)) (I 89 a.toInt.toNat).toInt (if c.toInt = 0 then (ordR F p (I 1 1).toInt I L a.toInt.toNat b.toInt.toNat).1 else if c.toInt = 1 then (ordR F p (I 1 1).toInt I L a.toInt.toNat b.toInt.toNat).2.1 else (ordR F p (I 1 1).toInt I L a.toInt.toNat b.toInt.toNat).2.2.2 - (I 25 2).toInt)) (fun Q hq => ?_) (fun I1 ha Q hq => ?_) hk
  · refine wX11_over_ok ?_
    unfold wX11_over
    refine tX11_isShelf (ifz (fun c1 => ri (hq _ _ (by rw [shV_no (fun q => c1 q.1)]; rfl) ag.rf)) (fun c1 => tX11_isWay (ifz (fun c2 => ri (hq _ _ (by rw [shV_no (fun q => c2 q.2.1)]; rfl) ag.rf)) (fun c2 => ife (fun c3 => ri (hq _ _ ?_ ag.rf)) (fun c3 => ife (fun c4 => ?_) (fun c4 => ri (hq _ _ ?_ ag.rf)))))))
    · rw [zlt, z0] at c3
      rw [shV_no (by omega)]; rfl
    · rw [zlt, z0] at c3
      rw [zle, zl_2] at c4
      have ok : (0 ≤ a.toInt ∧ a.toInt < 6) ∧ (0 ≤ b.toInt ∧ b.toInt < 3) ∧ (0 ≤ c.toInt ∧ c.toInt ≤ 2) := ⟨c1, c2, by omega⟩
      refine tX9_bytesRef hS hA.2.1.2 c1 ?_
      by_cases h50 : (I 89 a.toInt.toNat).toInt = 50
      · rw [bsV_50 h50, if_pos rfl]
        rw [shV_50 ok h50] at hq
        have hB := hS.byr hA.2.1.2 (by omega) h50
        have hR1 := hR0 c1 c2
        refine tX11_runOrder hF hB (by omega) hz (by omega) (way := b.toInt.toNat) (by omega) (by omega) (fun I4 ha4 h6 h7 hI4 => ?_)
        refine ife (fun q => ri (hq _ _ ?_ ha4)) (fun q => ife (fun q2 => ri (hq _ _ ?_ ha4)) (fun q2 => ri (hq _ _ ?_ ha4)))
        · rw [zeq, z0] at q
          rw [if_pos q]; exact h6
        · rw [zeq, z0] at q
          rw [zeq, z1] at q2
          rw [if_neg q, if_pos q2]; exact h7
        · rw [zeq, z0] at q
          rw [zeq, z1] at q2
          have e25 : I4 25 = I 25 := ha4.c 25
          have hb := hR1.2.2.2
          rw [if_neg q, if_neg q2, e25, zsub (by rw [hI4.2.2]; omega) (by rw [hI4.2.2]; omega), hI4.2.2]
      · rw [if_neg (bsV_n h50).1]
        exact ri (hq _ _ (bsV_z ok h50) ag.rf)
    · rw [zle, zl_2] at c4
      rw [shV_no (by omega)]; rfl
  · have e89 : I1 89 = I 89 := ha.c 89
    refine wX12_over_ok ?_
    unfold wX12_over
    by_cases c1 : 0 ≤ a.toInt ∧ a.toInt < 6
    case neg =>
      refine tX12_bytesNo c1 ?_
      rw [if_pos rfl]
      exact ri (hq _ _ (by rw [shV_no (fun q => c1 q.1)]; rfl) ag.rf)
    refine tX12_bytesIs c1 ?_
    have hm1 : ¬ bsV (I1 89 a.toInt.toNat).toInt 1 = -1 := by
      by_cases h50 : (I1 89 a.toInt.toNat).toInt = 50
      · rw [bsV_50 h50]; decide
      · exact (bsV_n h50).2.2
    rw [if_neg hm1]
    refine tX12_isWay (ifz (fun c2 => ri (hq _ _ (by rw [z64] at c2; rw [shV_no (fun q => c2 q.2.1)]; rfl) ag.rf)) (fun c2 => tX12_win (a := 0) (b := 2) (by decide) (by decide) (ifz (fun c3 => ri (hq _ _ (by rw [shV_no (fun q => c3 q.2.2)]; rfl) ag.rf)) (fun c3 => tX12_bytesIs c1 ?_))))
    rw [z64] at c2
    have ok : (0 ≤ a.toInt ∧ a.toInt < 6) ∧ (0 ≤ b.toInt ∧ b.toInt < 3) ∧ (0 ≤ c.toInt ∧ c.toInt ≤ 2) := ⟨c1, c2, c3⟩
    rw [e89]
    by_cases h50 : (I 89 a.toInt.toNat).toInt = 50
    · rw [bsV_50 h50, if_pos (by decide)]
      rw [shV_50 ok h50] at hq
      have hB := hS.byr hA.2.1.2 (by omega) h50
      have hR1 := hR0 c1 c2
      refine tX12_begins1 ?_
      have hb1 := ag_begin (J := I1)
      have hm : ag scM tcM I1 (u2 (cpk I1 80 76 24) 71 20 (I1 71 8)) := hb1.up rfl rfl
      have hall : ag (scC ++ scM) tcM I (u2 (cpk I1 80 76 24) 71 20 (I1 71 8)) := ha.th hm
      have e59 : (u2 (cpk I1 80 76 24) 71 20 (I1 71 8)) 59 = I 59 := hall.c 59
      refine tX12_orderedOf (hF.ag hall rfl) (hB.ag hall rfl) (by omega) (fun r6 h6 => ?_)
      rw [e59] at h6
      refine tX12_overOf (hF.ag hall rfl) (hB.ag hall rfl) (by omega) h6 (by omega) (fun i hi => rdN_g _ 0 i (by omega) hi) (Im_begin (F := F) (g := (I 1 1).toInt) h ha (by decide)) hz (by omega) (zst0 hF) (way := b.toInt.toNat) (by omega) (by omega) (fun r7 I7 ha7 h7 h25 hI7 => ?_)
      have hfin : ag scM tcM I1 I7 := hm.th ha7
      refine ife (fun q => ri (hq _ _ ?_ hfin)) (fun q => ife (fun q2 => ri (hq _ _ ?_ hfin)) (fun q2 => ri (hq _ _ ?_ hfin)))
      · rw [zeq, z0] at q
        rw [if_pos q]; exact h7
      · rw [zeq, z0] at q
        rw [zeq, z1] at q2
        rw [if_neg q, if_pos q2]; exact h25
      · rw [zeq, z0] at q
        rw [zeq, z1] at q2
        have e8 : I7 71 8 = I 25 2 := by rw [hfin.m 8, ha.m 8]; exact hI.2.1
        have hb := hR1.2.2.2
        unfold ordR at hb ⊢
        rw [if_neg q, if_neg q2, e8, zsub (by rw [hI7.2.2]; omega) (by rw [hI7.2.2]; omega), hI7.2.2]
    · have := (bsV_n (x := 1) h50).2.1
      rw [if_neg (by rw [zle, z0]; omega)]
      refine tX12_bytesIs c1 (ri ?_)
      rw [e89]
      exact hq _ _ (bsV_z ok h50) ag.rf
theorem T_bears {a b c : Int32} (h : Inv (LRl G l) k I L) (hk5 : k ≤ 512) (hk : ∀ r I' L', Inv (LRl G l) (k + 1) I' L' → K r r I' L') :
    cI G l mX11_bears (d + 109) [.ref 0, .int a, .int b, .int c] I L (fun r I1 L1 => cI G l mX12_bears (d + 109) [.ref 71, .int a, .int b, .int c] I1 L1 (fun r' I2 L2 => K r r' I2 L2)) := by
  obtain ⟨F, p, hF, hp⟩ := h.fr
  obtain ⟨hP, hC, hI, hT, hR, hD, hG, hA, hS, hM⟩ := id h
  have hz := dz h hk5
  have hmn := dmn h hk5
  have hg := hF.1
  have hR0 : ∀ (hx : 0 ≤ a.toInt ∧ a.toInt < 6) (hw : 0 ≤ b.toInt ∧ b.toInt < 3), zRok (I 25 2).toInt (0 + rdN (shf8 L a.toInt.toNat) (I 1 1).toInt (min 10 (I 59 a.toInt.toNat).toInt.toNat) 0) (ordR F p (I 1 1).toInt I L a.toInt.toNat b.toInt.toNat) := fun hx hw => by
    have hle := rdN_le (f := shf8 L a.toInt.toNat) (g := (I 1 1).toInt) (min 10 (I 59 a.toInt.toNat).toInt.toNat) 0
    exact zrun_ok (B := (I 25 2).toInt) hF ⟨hz.2.1, by omega⟩ (by omega) _ 0 _ (by omega) (fun j hj => ord_g (e := 0) (m := min 10 (I 59 a.toInt.toNat).toInt.toNat) hg.1 j (by omega)) ⟨by simp, Or.inl rfl, hz.1, hz.2.1, by simp⟩
  have hlim := rdN_le (f := shf8 L a.toInt.toNat) (g := (I 1 1).toInt) (min 10 (I 59 a.toInt.toNat).toInt.toNat) 0
  refine scr2 h (shV ((0 ≤ a.toInt ∧ a.toInt < 6) ∧ (0 ≤ b.toInt ∧ b.toInt < 3) ∧ (0 ≤ c.toInt ∧ c.toInt < 24)) (I 89 a.toInt.toNat).toInt (zB (p 0) (ordR F p (I 1 1).toInt I L a.toInt.toNat b.toInt.toNat).2.2.1 (ordR F p (I 1 1).toInt I L a.toInt.toNat b.toInt.toNat).2.2.2 (p 8 0) c.toInt.toNat)) (fun Q hq => ?_) (fun I1 ha Q hq => ?_) hk
  · refine wX11_bears_ok ?_
    unfold wX11_bears
    refine tX11_isShelf (ifz (fun c1 => ri (hq _ _ (by rw [shV_no (fun q => c1 q.1)]; rfl) ag.rf)) (fun c1 => tX11_isWay (ifz (fun c2 => ri (hq _ _ (by rw [shV_no (fun q => c2 q.2.1)]; rfl) ag.rf)) (fun c2 => tX11_isSquare (ifz (fun c3 => ri (hq _ _ (by rw [shV_no (fun q => c3 q.2.2)]; rfl) ag.rf)) (fun c3 => ?_))))))
    have ok : (0 ≤ a.toInt ∧ a.toInt < 6) ∧ (0 ≤ b.toInt ∧ b.toInt < 3) ∧ (0 ≤ c.toInt ∧ c.toInt < 24) := ⟨c1, c2, c3⟩
    refine tX9_bytesRef hS hA.2.1.2 c1 ?_
    by_cases h50 : (I 89 a.toInt.toNat).toInt = 50
    · rw [bsV_50 h50, if_pos rfl]
      rw [shV_50 ok h50] at hq
      have hB := hS.byr hA.2.1.2 (by omega) h50
      have hR1 := hR0 c1 c2
      refine tX11_runOrder hF hB (by omega) hz (by omega) (way := b.toInt.toNat) (by omega) (by omega) (fun I4 ha4 h6 h7 hI4 => ?_)
      refine tX3_bearing (by unfold isIce; decide) (hF.ag ha4 rfl) hI4 ⟨hR1.2.2.1, hR1.2.2.2.1, by have := hR1.2.2.2.2; omega⟩ (zst0 hF) (s := c.toInt.toNat) (by omega) (by omega) (w := 0) (by decide) (by decide) (fun r hr => ri (hq _ _ ?_ ha4))
      rw [hr]
      have := hR1.2.2.1 c.toInt.toNat (by omega)
      unfold zB
      rw [Int.zero_mul]
      omega
    · rw [if_neg (bsV_n h50).1]
      exact ri (hq _ _ (bsV_z ok h50) ag.rf)
  · have e89 : I1 89 = I 89 := ha.c 89
    refine wX12_bears_ok ?_
    unfold wX12_bears
    by_cases c1 : 0 ≤ a.toInt ∧ a.toInt < 6
    case neg =>
      refine tX12_bytesNo c1 ?_
      rw [if_pos rfl]
      exact ri (hq _ _ (by rw [shV_no (fun q => c1 q.1)]; rfl) ag.rf)
    refine tX12_bytesIs c1 ?_
    have hm1 : ¬ bsV (I1 89 a.toInt.toNat).toInt 1 = -1 := by
      by_cases h50 : (I1 89 a.toInt.toNat).toInt = 50
      · rw [bsV_50 h50]; decide
      · exact (bsV_n h50).2.2
    rw [if_neg hm1]
    refine tX12_isWay (ifz (fun c2 => ri (hq _ _ (by rw [z64] at c2; rw [shV_no (fun q => c2 q.2.1)]; rfl) ag.rf)) (fun c2 => tX12_isSquare (ifz (fun c3 => ri (hq _ _ (by rw [shV_no (fun q => c3 q.2.2)]; rfl) ag.rf)) (fun c3 => tX12_bytesIs c1 ?_))))
    rw [z64] at c2
    have ok : (0 ≤ a.toInt ∧ a.toInt < 6) ∧ (0 ≤ b.toInt ∧ b.toInt < 3) ∧ (0 ≤ c.toInt ∧ c.toInt < 24) := ⟨c1, c2, c3⟩
    rw [e89]
    by_cases h50 : (I 89 a.toInt.toNat).toInt = 50
    · rw [bsV_50 h50, if_pos (by decide)]
      rw [shV_50 ok h50] at hq
      have hB := hS.byr hA.2.1.2 (by omega) h50
      have hR1 := hR0 c1 c2
      refine tX12_begins1 ?_
      have hb1 := ag_begin (J := I1)
      have hm : ag scM tcM I1 (u2 (cpk I1 80 76 24) 71 20 (I1 71 8)) := hb1.up rfl rfl
      have hall : ag (scC ++ scM) tcM I (u2 (cpk I1 80 76 24) 71 20 (I1 71 8)) := ha.th hm
      have e59 : (u2 (cpk I1 80 76 24) 71 20 (I1 71 8)) 59 = I 59 := hall.c 59
      refine tX12_orderedOf (hF.ag hall rfl) (hB.ag hall rfl) (by omega) (fun r6 h6 => ?_)
      rw [e59] at h6
      refine tX12_overOf (hF.ag hall rfl) (hB.ag hall rfl) (by omega) h6 (by omega) (fun i hi => rdN_g _ 0 i (by omega) hi) (Im_begin (F := F) (g := (I 1 1).toInt) h ha (by decide)) hz (by omega) (zst0 hF) (way := b.toInt.toNat) (by omega) (by omega) (fun r7 I7 ha7 h7 h25 hI7 => ?_)
      have hfin : ag scM tcM I1 I7 := hm.th ha7
      have hall7 : ag (scC ++ scM) tcM I I7 := ha.th hfin
      exact tX12_bearsAt (hF.ag hall7 rfl) hI7 ⟨hR1.2.2.1, hR1.2.2.2.1, by have := hR1.2.2.2.2; unfold ordR at this; omega⟩ (zst0 hF) (s := c.toInt.toNat) (by omega) (by omega) (fun r hr => ri (hq _ _ hr hfin))
    · have := (bsV_n (x := 1) h50).2.1
      rw [if_neg (by rw [zle, z0]; omega)]
      refine tX12_bytesIs c1 (ri ?_)
      rw [e89]
      exact hq _ _ (bsV_z ok h50) ag.rf
end OV

/-! strength -/
theorem rst_v {p : Nat → Nat → Int} {v tw : Int32} {s : Nat} (h : 0 ≤ v.toInt) : rst v tw 0 p s = v.toInt := by
  unfold rst
  rw [if_neg (by omega), if_neg (fun q => bitP_0 (by omega) q.2)]
  omega
section ST
variable {G : jG} {l : Launch} {d k : Nat} {F : Option lF} {g : Int} {p : Nat → Nat → Int} {I : jS} {L : jL} {st wk : Nat → Int} {mn : Int} {Q : Int32 → jS → jL → Prop} {Qv : jS → jL → Prop} {K : Int32 → Int32 → jS → jL → Prop}
/-- on a way -/
def onW (way : Nat) (v : Int) (f : Nat → Int) : Nat → Int := fun s => if 8 * way ≤ s ∧ s < 8 * way + 8 then v else f s
theorem onW_eq {way : Nat} {v : Int} {f : Nat → Int} : eqW way (onW way v f) (fun _ => v) := fun k hk => by
  unfold onW
  rw [if_pos (by omega)]
theorem tX5_clearWay {ic way : Nat} {x : Int32} (hic : isIce ic) (hI : Ic ic I st wk mn) (hx : x.toInt = way) (hw : way < 3) (h : ∀ I', ag [ic + 2] [] I I' → Ic ic I' st (onW way 0 wk) mn → Qv I' L) : cV G l mX5_clearWay (d + 2) [.ref ic, .int x] I L Qv := by
  have hn := ice71 hic
  refine wX5_clearWay_ok hic (Q := fun v I' L' => v = none ∧ Qv I' L') ?_
  unfold wX5_clearWay
  refine tX11_isWay (ifz (fun c => absurd (by omega) c) (fun _ => ?_))
  have key : ∀ (m i : Nat) J, i + m = 8 → ag [ic + 2] [] I J → Ic ic J st (fun s => if 8 * way ≤ s ∧ s < 8 * way + i then 0 else wk s) mn → wX5_clearWay_10 G l (d + 1) ic (fun v I' L' => v = none ∧ Qv I' L') (m + 1) x (Int32.ofNat i) J L := by
    intro m
    induction m with
    | zero =>
      intro i J hi ha hJ
      have : i = 8 := by omega
      subst this
      unfold wX5_clearWay_10
      rw [if_pos (by decide)]
      exact ⟨rfl, h J ha hJ⟩
    | succ m ih =>
      intro i J hi ha hJ
      have e8 : (x * 8).toInt = way * 8 := by rw [zmul (by rw [hx, zl_8]; omega) (by rw [hx, zl_8]; omega), hx, zl_8]
      have e9 : (x * 8 + Int32.ofNat i).toInt = way * 8 + i := by rw [zadd (by rw [e8, zo (by omega)]; omega) (by rw [e8, zo (by omega)]; omega), e8, zo (by omega)]
      have en : (x * 8 + Int32.ofNat i).toNatClampNeg = 8 * way + i := by rw [znat, e9]; omega
      unfold wX5_clearWay_10
      rw [if_neg (by rw [zle, zl_8, zo (by omega)]; omega)]
      refine ⟨by rw [zin, e9]; omega, ?_⟩
      rw [en, zsucc]
      refine ih (i + 1) _ (by omega) (agu ha (by simp) hn.2.2.1) ⟨fun s hs => ?_, fun s hs => ?_, ?_⟩
      · rw [u2n (by omega)]; exact hJ.1 s hs
      · have := hJ.2.1 s hs
        simp only at this ⊢
        rw [u2_ap]
        by_cases q : s = 8 * way + i
        · rw [if_pos ⟨rfl, q⟩, if_pos (by omega)]; rfl
        · rw [if_neg (fun z => q z.2), this]
          by_cases q2 : 8 * way ≤ s ∧ s < 8 * way + i
          · rw [if_pos q2, if_pos (by omega)]
          · rw [if_neg q2, if_neg (by omega)]
      · rw [u2n (by omega)]; exact hJ.2.2
  exact ⟨_, key 8 0 I (by omega) ag.rf ⟨hI.1, fun s hs => by simp only; rw [if_neg (by omega)]; exact hI.2.1 s hs, hI.2.2⟩⟩
theorem tX5_levelWay {ic way : Nat} {x y : Int32} (hic : isIce ic) (hI : Ic ic I st wk mn) (hx : x.toInt = way) (hw : way < 3) (h : ∀ I', ag [ic + 1] [] I I' → Ic ic I' (onW way y.toInt st) wk mn → Qv I' L) : cV G l mX5_levelWay (d + 2) [.ref ic, .int x, .int y] I L Qv := by
  have hn := ice71 hic
  refine wX5_levelWay_ok hic (Q := fun v I' L' => v = none ∧ Qv I' L') ?_
  unfold wX5_levelWay
  refine tX11_isWay (ifz (fun c => absurd (by omega) c) (fun _ => ?_))
  have key : ∀ (m i : Nat) J, i + m = 8 → ag [ic + 1] [] I J → Ic ic J (fun s => if 8 * way ≤ s ∧ s < 8 * way + i then y.toInt else st s) wk mn → wX5_levelWay_10 G l (d + 1) ic (fun v I' L' => v = none ∧ Qv I' L') (m + 1) x y (Int32.ofNat i) J L := by
    intro m
    induction m with
    | zero =>
      intro i J hi ha hJ
      have : i = 8 := by omega
      subst this
      unfold wX5_levelWay_10
      rw [if_pos (by decide)]
      exact ⟨rfl, h J ha hJ⟩
    | succ m ih =>
      intro i J hi ha hJ
      have e8 : (x * 8).toInt = way * 8 := by rw [zmul (by rw [hx, zl_8]; omega) (by rw [hx, zl_8]; omega), hx, zl_8]
      have e9 : (x * 8 + Int32.ofNat i).toInt = way * 8 + i := by rw [zadd (by rw [e8, zo (by omega)]; omega) (by rw [e8, zo (by omega)]; omega), e8, zo (by omega)]
      have en : (x * 8 + Int32.ofNat i).toNatClampNeg = 8 * way + i := by rw [znat, e9]; omega
      unfold wX5_levelWay_10
      rw [if_neg (by rw [zle, zl_8, zo (by omega)]; omega)]
      refine ⟨by rw [zin, e9]; omega, ?_⟩
      rw [en, zsucc]
      refine ih (i + 1) _ (by omega) (agu ha (by simp) hn.2.1) ⟨fun s hs => ?_, fun s hs => ?_, ?_⟩
      · have := hJ.1 s hs
        simp only at this ⊢
        rw [u2_ap]
        by_cases q : s = 8 * way + i
        · rw [if_pos ⟨rfl, q⟩, if_pos (by omega)]
        · rw [if_neg (fun z => q z.2), this]
          by_cases q2 : 8 * way ≤ s ∧ s < 8 * way + i
          · rw [if_pos q2, if_pos (by omega)]
          · rw [if_neg q2, if_neg (by omega)]
      · rw [u2n (by omega)]; exact hJ.2.1 s hs
      · rw [u2n (by omega)]; exact hJ.2.2
  exact ⟨_, key 8 0 I (by omega) ag.rf ⟨fun s hs => by simp only; rw [if_neg (by omega)]; exact hI.1 s hs, hI.2.1, hI.2.2⟩⟩
/-- how many get over, if all squares bear v -/
def stV (F : Option lF) (p : Nat → Nat → Int) (way : Nat) (o : Nat → Nat) (n : Nat) (mn v : Int) : Int := (zL F p (fun _ => v) way ((List.range' 0 n).map o) (0, fun _ => 0, mn)).1
def zstr (F : Option lF) (p : Nat → Nat → Int) (way : Nat) (o : Nat → Nat) (n : Nat) (mn : Int) : Nat → Nat → Int
  | 0, _ => -2
  | m + 1, v => if stV F p way o n mn v = n then v else zstr F p way o n mn m (v + 1)
theorem T_strength {a b : Int32} (h : Inv (LRl G l) k I L) (hk5 : k ≤ 512) (hk : ∀ r I' L', Inv (LRl G l) (k + 1) I' L' → K r r I' L') :
    cI G l mX11_strength (d + 109) [.ref 0, .int a, .int b] I L (fun r I1 L1 => cI G l mX12_strength (d + 109) [.ref 71, .int a, .int b] I1 L1 (fun r' I2 L2 => K r r' I2 L2)) := by
  obtain ⟨F, p, hF, hp⟩ := h.fr
  obtain ⟨hP, hC, hI, hT, hR, hD, hG, hA, hS, hM⟩ := id h
  have hz := dz h hk5
  have hmn := dmn h hk5
  have hg := hF.1
  have i25 : isIce 25 := by unfold isIce; decide
  have i32 : isIce 32 := by unfold isIce; decide
  have hlim := rdN_le (f := shf8 L a.toInt.toNat) (g := (I 1 1).toInt) (min 10 (I 59 a.toInt.toNat).toInt.toNat) 0
  refine scr2 h (shV ((0 ≤ a.toInt ∧ a.toInt < 6) ∧ (0 ≤ b.toInt ∧ b.toInt < 3)) (I 89 a.toInt.toNat).toInt (zstr F p b.toInt.toNat (fun i => (shf8 L a.toInt.toNat i).toNat) (rdN (shf8 L a.toInt.toNat) (I 1 1).toInt (min 10 (I 59 a.toInt.toNat).toInt.toNat) 0) (I 25 2).toInt 100 0)) (fun Q hq => ?_) (fun I1 ha Q hq => ?_) hk
  · refine wX11_strength_ok ?_
    unfold wX11_strength
    refine tX11_isShelf (ifz (fun c1 => ri (hq _ _ (by rw [shV_no (fun q => c1 q.1)]; rfl) ag.rf)) (fun c1 => tX11_isWay (ifz (fun c2 => ri (hq _ _ (by rw [shV_no (fun q => c2 q.2)]; rfl) ag.rf)) (fun c2 => tX9_bytesRef hS hA.2.1.2 c1 ?_))))
    by_cases h50 : (I 89 a.toInt.toNat).toInt = 50
    · rw [bsV_50 h50, if_pos rfl]
      rw [shV_50 ⟨c1, c2⟩ h50] at hq
      have hB := hS.byr hA.2.1.2 (by omega) h50
      refine tX10_readOrder (e := a.toInt.toNat) (mo := 10) hF hB (by omega) (by decide) (by decide) (fun I2 ha2 hO2 => ?_)
      have hord := ord_g (g := (I 1 1).toInt) (e := 0) (f := shf8 L a.toInt.toNat) (m := min 10 (I 59 a.toInt.toNat).toInt.toNat) hg.1
      generalize hR2 : zstr F p b.toInt.toNat (fun i => (shf8 L a.toInt.toNat i).toNat) (rdN (shf8 L a.toInt.toNat) (I 1 1).toInt (min 10 (I 59 a.toInt.toNat).toInt.toNat) 0) (I 25 2).toInt 100 0 = R at hq
      have hod : ∀ i, i < rdN (shf8 L a.toInt.toNat) (I 1 1).toInt (min 10 (I 59 a.toInt.toNat).toInt.toNat) 0 → (((fun i => (shf8 L a.toInt.toNat i).toNat) i : Nat) : Int) < (I 1 1).toInt := hord
      generalize (fun i => (shf8 L a.toInt.toNat i).toNat) = o at *
      generalize rdN (shf8 L a.toInt.toNat) (I 1 1).toInt (min 10 (I 59 a.toInt.toNat).toInt.toNat) 0 = n at *
      have hbw : b.toInt = (b.toInt.toNat : Nat) := by omega
      have hw3 : b.toInt.toNat < 3 := by omega
      generalize b.toInt.toNat = way at *
      have key : ∀ (m v : Nat) J, v + m = 100 → ag scC [] I J → Od J o n → zstr F p way o n (I 25 2).toInt m v = R → wX11_strength_48 G l (d + 108) (fun v I' L' => ∃ r, v = some (.int r) ∧ Q r I' L') (m + 1) b (Int32.ofNat v) J L := by
        intro m
        induction m with
        | zero =>
          intro v J hv ha hO hr
          unfold wX11_strength_48
          rw [if_pos (by rw [zlt, zl_99, zo (by omega)]; omega)]
          exact ri (hq _ _ (by rw [← hr]; rfl) ha)
        | succ m ih =>
          intro v J hv ha hO hr
          unfold wX11_strength_48
          rw [if_neg (by rw [zlt, zl_99, zo (by omega)]; omega)]
          refine tX3_follow i32 i25 (by decide) (hF.ag ha rfl) (Ic_deed.ag i25 ha (by decide) (by decide) (by decide)) (fun J1 ha1 hJ1 => ?_)
          refine tX5_clearWay i32 hJ1 hbw hw3 (fun J2 ha2 hJ2 => tX5_levelWay i32 hJ2 hbw hw3 (fun J3 ha3 hJ3 => ?_))
          have ha4 : ag scC [] I J3 := ((ha.cl ha1).cl ha2).cl ha3
          rw [zo (by omega)] at hJ3
          have hst : zstok (onW way (v : Int) (p 0)) := fun s hs => by
            have := zst0 hF s hs
            unfold onW
            by_cases q : 8 * way ≤ s ∧ s < 8 * way + 8
            · rw [if_pos q]; omega
            · rw [if_neg q]; exact this
          have hzk : zok (onW way 0 (dwk I)) (I 25 2).toInt := ⟨fun s hs => by
            have := hz.1 s hs
            unfold onW
            by_cases q : 8 * way ≤ s ∧ s < 8 * way + 8
            · rw [if_pos q]; omega
            · rw [if_neg q]; exact this, hz.2⟩
          refine tX10_walk (hF.ag ha4 rfl) (((hO.ag ha1 rfl rfl).ag ha2 rfl rfl).ag ha3 rfl rfl) hod hJ3 hzk (by omega) hst hbw hw3 (fun J4 ha5 hO4 h6 _ hJ4 => ?_)
          have ha6 : ag scC [] I J4 := ha4.cl ha5
          have hv' : (J4 31 6).toInt = stV F p way o n (I 25 2).toInt v := by
            rw [h6]
            have e1 := congrArg Prod.fst (zrun_L (F := F) (p := p) (st := onW way (v : Int) (p 0)) (way := way) (o := o) n 0 (0, -2, onW way 0 (dwk I), (I 25 2).toInt))
            simp only at e1
            rw [e1]
            unfold stV
            exact (zL_loc onW_eq _ (0, onW way 0 (dwk I), (I 25 2).toInt) (0, fun _ => 0, (I 25 2).toInt) rfl onW_eq rfl).1
          unfold zstr at hr
          refine ife (fun q => ?_) (fun q => ?_)
          · rw [zeq, hv', hO4.1] at q
            rw [if_pos q] at hr
            exact ri (hq _ _ (by rw [zo (by omega), ← hr]) ha6)
          · rw [zeq, hv', hO4.1] at q
            rw [if_neg q] at hr
            rw [zsucc]
            exact ih (v + 1) J4 (by omega) ha6 hO4 hr
      exact ⟨_, key 100 0 I2 (by omega) (ha2.up rfl rfl) hO2 hR2⟩
    · rw [if_neg (bsV_n h50).1]
      exact ri (hq _ _ (bsV_z ⟨c1, c2⟩ h50) ag.rf)
  · have e89 : I1 89 = I 89 := ha.c 89
    refine wX12_strength_ok ?_
    unfold wX12_strength
    by_cases c1 : 0 ≤ a.toInt ∧ a.toInt < 6
    case neg =>
      refine tX12_bytesNo c1 ?_
      rw [if_pos rfl]
      exact ri (hq _ _ (by rw [shV_no (fun q => c1 q.1)]; rfl) ag.rf)
    refine tX12_bytesIs c1 ?_
    have hm1 : ¬ bsV (I1 89 a.toInt.toNat).toInt 1 = -1 := by
      by_cases h50 : (I1 89 a.toInt.toNat).toInt = 50
      · rw [bsV_50 h50]; decide
      · exact (bsV_n h50).2.2
    rw [if_neg hm1]
    refine tX12_isWay (ifz (fun c2 => ri (hq _ _ (by rw [z64] at c2; rw [shV_no (fun q => c2 q.2)]; rfl) ag.rf)) (fun c2 => tX12_bytesIs c1 ?_))
    rw [z64] at c2
    rw [e89]
    by_cases h50 : (I 89 a.toInt.toNat).toInt = 50
    · rw [bsV_50 h50, if_pos (by decide)]
      rw [shV_50 ⟨c1, c2⟩ h50] at hq
      have hB := hS.byr hA.2.1.2 (by omega) h50
      have e59 : I1 59 = I 59 := ha.c 59
      refine tX12_orderedOf (e := a.toInt.toNat) (hF.ag ha rfl) (hB.ag ha rfl) (by omega) (fun r4 h4 => ?_)
      rw [e59] at h4
      have hordg : ∀ i, i < rdN (shf8 L a.toInt.toNat) (I 1 1).toInt (min 10 (I 59 a.toInt.toNat).toInt.toNat) 0 → 0 ≤ shf8 L a.toInt.toNat i ∧ shf8 L a.toInt.toNat i < (I 1 1).toInt := fun i hi => rdN_g _ 0 i (by omega) hi
      generalize hR2 : zstr F p b.toInt.toNat (fun i => (shf8 L a.toInt.toNat i).toNat) (rdN (shf8 L a.toInt.toNat) (I 1 1).toInt (min 10 (I 59 a.toInt.toNat).toInt.toNat) 0) (I 25 2).toInt 100 0 = R at hq
      generalize rdN (shf8 L a.toInt.toNat) (I 1 1).toInt (min 10 (I 59 a.toInt.toNat).toInt.toNat) 0 = n at *
      have hbw : b.toInt = (b.toInt.toNat : Nat) := by omega
      have hw3 : b.toInt.toNat < 3 := by omega
      have hae : a.toInt = (a.toInt.toNat : Nat) := by omega
      generalize b.toInt.toNat = way at *
      generalize a.toInt.toNat = e at *
      have fin : ∀ (r : Int32) J, r.toInt = R → ag scM (23 :: tcM) I1 J → wX12_strength_118 G l (d + 108) (fun v I' L' => ∃ r, v = some (.int r) ∧ Q r I' L') r J L := fun r J hr haJ => by
        unfold wX12_strength_118
        refine ri (hq _ _ hr ⟨fun q h1 h2 => by rw [u2_ne q h1]; exact haJ.1 q h1 h2, fun i hi => ?_⟩)
        by_cases q : i = 23
        · subst q
          rw [u2e, ha.m 23]; exact hM.2.symm
        · rw [u2i q]
          exact haJ.2 i (by simp only [List.mem_cons]; exact fun z => z.elim q hi)
      have key : ∀ (m v : Nat) J (x4 : Int32), v + m = 100 → x4 = -2 → ag scM (23 :: tcM) I1 J → zstr F p way (fun i => (shf8 L e i).toNat) n (I 25 2).toInt m v = R → wX12_strength_46 G l (d + 108) (fun v I' L' => ∃ r, v = some (.int r) ∧ Q r I' L') (m + 1 + 1) a b r4 x4 (Int32.ofNat v) J L := by
        intro m
        induction m with
        | zero =>
          intro v J x4 hv hx4 haJ hr
          subst hx4
          unfold wX12_strength_46
          rw [if_pos (by rw [zlt, zl_99, zo (by omega)]; omega)]
          exact fin _ _ (by rw [← hr]; rfl) haJ
        | succ m ih =>
          intro v J x4 hv hx4 haJ hr
          subst hx4
          unfold wX12_strength_46
          rw [if_neg (by rw [zlt, zl_99, zo (by omega)]; omega), if_neg (by decide)]
          refine tX12_begins1 ?_
          have hab := ag_begin (J := J)
          have e20 : (u2 (cpk J 80 76 24) 71 20 (J 71 8)) 71 20 = I 25 2 := by
            rw [u2e]
            have : J 71 8 = I1 71 8 := haJ.m 8
            rw [this, ha.m 8]; exact hI.2.1
          have hJ1 : ag scM (23 :: tcM) I1 (u2 (cpk J 80 76 24) 71 20 (J 71 8)) := haJ.th hab
          generalize u2 (cpk J 80 76 24) 71 20 (J 71 8) = J1 at *
          have clr : ∀ (q s : Nat) M, s + q = 24 → ag scM (23 :: tcM) I1 M → M 71 20 = I 25 2 → (∀ t, t < s → M 80 t = 0) → wX12_strength_65 G l (d + 108) (fun z0 z1 z2 z3 z4 I L => wX12_strength_46 G l (d + 108) (fun v I' L' => ∃ r, v = some (.int r) ∧ Q r I' L') (m + 1 + 1) z0 z1 z2 z3 z4 I L) (fun v I' L' => ∃ r, v = some (.int r) ∧ Q r I' L') (q + 1) a b r4 (Int32.ofNat v) (Int32.ofNat s) M L := by
            intro q
            induction q with
            | zero =>
              intro s M hs haM hm20 hm80
              have : s = 24 := by omega
              subst this
              unfold wX12_strength_65
              rw [if_pos (by decide)]
              have haM2 : ag scM (23 :: tcM) I1 (u2 M 71 23 (Int32.ofNat v)) := agm haM (by simp)
              have hall : ag (scC ++ scM) (23 :: tcM) I (u2 M 71 23 (Int32.ofNat v)) := ha.th haM2
              have f21 : (u2 M 71 23 (Int32.ofNat v)) 71 21 = 0 := by rw [hall.m 21]; exact hM.1
              have hIm : Im (u2 M 71 23 (Int32.ofNat v)) p (fun _ => (v : Int)) (fun _ => 0) (I 25 2).toInt := by
                refine ⟨fun s hs => ?_, fun s hs => ?_, ?_⟩
                · rw [f21, u2e, rst_v (by rw [zo (by omega)]; omega), zo (by omega)]
                · rw [u2n (by decide), hm80 s hs]; rfl
                · rw [u2i (by decide), hm20]
              refine tX12_overOf (hF.ag hall rfl) (hB.ag hall rfl) hae h4 (by omega) hordg hIm ⟨fun s hs => by simp, hz.2⟩ (by omega) (fun s hs => by omega) hbw hw3 (fun r7 J7 ha7 h7 _ _ => ?_)
              have hv' : r7.toInt = stV F p way (fun i => (shf8 L e i).toNat) n (I 25 2).toInt v := by
                rw [h7]
                exact congrArg Prod.fst (zrun_L (F := F) (p := p) (st := fun _ => (v : Int)) (way := way) (o := fun i => (shf8 L e i).toNat) n 0 (0, -2, fun _ => 0, (I 25 2).toInt))
              have ha8 : ag scM (23 :: tcM) I1 J7 := haM2.th ha7
              unfold zstr at hr
              refine ife (fun q => ?_) (fun q => ?_)
              · rw [zeq, hv', h4] at q
                rw [if_pos q] at hr
                unfold wX12_strength_46
                refine ife (fun _ => ?_) (fun _ => ?_)
                · exact fin _ _ (by rw [zo (by omega), ← hr]) ha8
                · rw [if_pos (by rw [zle, z0, zo (by omega)]; omega)]
                  exact fin _ _ (by rw [zo (by omega), ← hr]) ha8
              · rw [zeq, hv', h4] at q
                rw [if_neg q] at hr
                rw [zsucc]
                exact ih (v + 1) J7 _ (by omega) rfl ha8 hr
            | succ q ihq =>
              intro s M hs haM hm20 hm80
              unfold wX12_strength_65
              rw [if_neg (by rw [zle, zl_24, zo (by omega)]; omega)]
              refine ⟨by rw [zin, zo (by omega)]; omega, ?_⟩
              rw [zon (by omega), zsucc]
              refine ihq (s + 1) _ (by omega) (agu haM (by decide) (by decide)) (by rw [u2n (by decide)]; exact hm20) (fun t ht => ?_)
              rw [u2_ap]
              by_cases ht2 : t = s
              · rw [if_pos ⟨rfl, ht2⟩]
              · rw [if_neg (fun z => ht2 z.2)]; exact hm80 t (by omega)
          exact ⟨_, clr 24 0 J1 (by omega) hJ1 e20 (fun t ht => by omega)⟩
      exact ⟨_, key 100 0 I1 (-2) (by omega) rfl ag.rf hR2⟩
    · have := (bsV_n (x := 1) h50).2.1
      rw [if_neg (by rw [zle, z0]; omega)]
      refine tX12_bytesIs c1 (ri ?_)
      rw [e89]
      exact hq _ _ (bsV_z ⟨c1, c2⟩ h50) ag.rf
end ST

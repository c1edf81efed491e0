/-! judge -/
def gdJ (f : Nat → Int) (g : Int) (i : Nat) : Prop := (0 ≤ f (3 * i) ∧ f (3 * i) < g) ∧ (0 ≤ f (3 * i + 1) ∧ f (3 * i + 1) < 3) ∧ (0 ≤ f (3 * i + 2) ∧ f (3 * i + 2) ≤ 1)
abbrev gdJ' (f : Nat → Int) (g : Int) (i : Nat) : Prop := (0 ≤ f (3 * i) ∧ f (3 * i) < g) ∧ (0 ≤ f (3 * i + 1) ∧ f (3 * i + 1) < 3) ∧ (0 ≤ f (3 * i + 2) ∧ f (3 * i + 2) ≤ 1)
def zjud (F : Option lF) (p : Nat → Nat → Int) (g : Int) (f : Nat → Int) (sz : Int) : Nat → Nat → (Nat → Int) → Int → Int
  | 0, _, _, _ => -2
  | m + 1, i, wk, mn => if sz ≤ 3 * i then -2 else if 3 * i + 2 < sz ∧ gdJ' f g i ∧ ((zcross F p (p 0) (f (3 * i + 1)).toNat (f (3 * i)).toNat 0 false wk mn).1 = -1 ↔ f (3 * i + 2) = 1)
      then zjud F p g f sz m (i + 1) (zcross F p (p 0) (f (3 * i + 1)).toNat (f (3 * i)).toNat 0 false wk mn).2.1 (zcross F p (p 0) (f (3 * i + 1)).toNat (f (3 * i)).toNat 0 false wk mn).2.2 else i
theorem Im_beg {G : jG} {l : Launch} {k : Nat} {p : Nat → Nat → Int} {I J : jS} {L : jL} {LR : jLR} (h : Inv LR k I L) (hall : ag (scC ++ scM) tcM I J) : Im (u2 (cpk J 80 76 24) 71 20 (J 71 8)) p (p 0) (dwk I) (I 25 2).toInt := by
  obtain ⟨hP, hC, hI, hT, hR, hD, hG, hA, hS, hM⟩ := h
  have e76 : J 76 = I 76 := hall.c 76
  have e8 : J 71 8 = I 71 8 := hall.m 8
  have e21 : J 71 21 = I 71 21 := hall.m 21
  have e23 : J 71 23 = I 71 23 := hall.m 23
  refine ⟨fun s hs => ?_, fun s hs => ?_, ?_⟩
  · have f21 : (u2 (cpk J 80 76 24) 71 20 (J 71 8)) 71 21 = 0 := by rw [u2i (by decide), cpk_ne (by decide), e21]; exact hM.1
    have f23 : (u2 (cpk J 80 76 24) 71 20 (J 71 8)) 71 23 = -1 := by rw [u2i (by decide), cpk_ne (by decide), e23]; exact hM.2
    rw [f21, f23]
    exact rst_0
  · rw [u2n (by decide), cpk_eq hs, e76, (hI.1 s hs).1]; rfl
  · rw [u2e, e8, hI.2.1]
section JU
variable {G : jG} {l : Launch} {d k : Nat} {F : Option lF} {g : Int} {p : Nat → Nat → Int} {I : jS} {L : jL} {st wk : Nat → Int} {mn : Int} {Q : Int32 → jS → jL → Prop} {Qv : jS → jL → Prop} {K : Int32 → Int32 → jS → jL → Prop}
theorem tX9_byteAt' {x y : Int32} {e i : Nat} (hB : ByR I L e) (hx : x.toInt = e) (hy : y.toInt = i) (hi : i < 60) (h : ∀ r : Int32, r.toInt = shf8 L e i → Q r I L) : cI G l mX9_byteAt (d + 3) [.ref 57, .int x, .int y] I L Q := by
  have he := hB.1
  refine tX9_byteAt (by omega) (by omega) (h _ ?_)
  have e1 : x.toInt.toNat = e := by omega
  have e2 : y.toInt.toNat = i := by omega
  rw [e1, e2]
  exact b32 (hB.2.2.2.2.2 i hi).2
theorem tX11_isSo {x y : Int32} {e i : Nat} (hF : Fr G l F g p I) (hB : ByR I L e) (hI : Ic 32 I (p 0) wk mn) (hz : zok wk mn) (hx : x.toInt = e) (hy : y.toInt = (3 * i : Nat)) (hi : 3 * i + 2 < 60)
    (h1 : ¬ gdJ' (shf8 L e) g i → Q 0 I L)
    (h2 : gdJ' (shf8 L e) g i → ∀ I', ag scC [] I I' → Ic 32 I' (p 0) (zcross F p (p 0) (shf8 L e (3 * i + 1)).toNat (shf8 L e (3 * i)).toNat 0 false wk mn).2.1 (zcross F p (p 0) (shf8 L e (3 * i + 1)).toNat (shf8 L e (3 * i)).toNat 0 false wk mn).2.2 → Q (b01 ((zcross F p (p 0) (shf8 L e (3 * i + 1)).toNat (shf8 L e (3 * i)).toNat 0 false wk mn).1 = -1 ↔ shf8 L e (3 * i + 2) = 1)) I' L) : cI G l mX11_isSo (d + 6) [.ref 0, .int x, .int y] I L Q := by
  have y1 : (y + 1).toInt = (3 * i + 1 : Nat) := by rw [zadd (by rw [z1, hy]; omega) (by rw [z1, hy]; omega), hy, z1]; omega
  have y2 : (y + 2).toInt = (3 * i + 2 : Nat) := by rw [zadd (by rw [zl_2, hy]; omega) (by rw [zl_2, hy]; omega), hy, zl_2]; omega
  refine wX11_isSo_ok ?_
  unfold wX11_isSo
  refine tX9_byteAt' hB hx hy (by omega) (fun r1 q1 => tX9_byteAt' hB hx y1 (by omega) (fun r2 q2 => tX9_byteAt' hB hx y2 (by omega) (fun r3 q3 => ?_)))
  unfold gdJ' at h1 h2
  generalize shf8 L e (3 * i) = f0 at *
  generalize shf8 L e (3 * i + 1) = f1 at *
  generalize shf8 L e (3 * i + 2) = f2 at *
  refine tX11_isGoer (ifz (fun c1 => ri (h1 (fun q => c1 ?_))) (fun c1 => tX11_isWay (ifz (fun c2 => ri (h1 (fun q => c2 ?_))) (fun c2 => ife (fun c3 => ri (h1 (fun q => ?_))) (fun c3 => ife (fun c4 => ?_) (fun c4 => ri (h1 (fun q => ?_))))))))
  · rw [q1, hF.2.1]; exact q.1
  · rw [q2]; exact q.2.1
  · rw [zlt, z0, q3] at c3; have := q.2.2.1; omega
  · rw [zlt, z0, q3] at c3
    rw [zle, z1, q3] at c4
    rw [q1, hF.2.1] at c1
    rw [q2] at c2
    have hgd : (0 ≤ f0 ∧ f0 < g) ∧ (0 ≤ f1 ∧ f1 < 3) ∧ (0 ≤ f2 ∧ f2 ≤ 1) := ⟨c1, c2, by omega, c4⟩
    refine tX3_cross (back := false) (way := f1.toNat) (n := f0.toNat) (by unfold isIce; decide) hF hI hz (zst0 hF) (by omega) (by omega) (by omega) (by omega) (more := 0) (by decide) (by decide) rfl (fun r6 I6 h6 ha6 hI6 => ?_)
    have hfin := h2 hgd I6 (ha6.up rfl rfl) hI6
    have hm1 : r6 = -1 ↔ (zcross F p (p 0) f1.toNat f0.toNat 0 false wk mn).1 = -1 := by rw [zeq, h6]; exact Iff.rfl
    have h31 : r3 = 1 ↔ f2 = 1 := by rw [zeq, q3]; exact Iff.rfl
    unfold wX11_isSo_97 wX11_isSo_108
    refine ife (fun a1 => ife (fun a2 => ?_) (fun a2 => ?_)) (fun a1 => ife (fun a2 => ?_) (fun a2 => ?_))
    · rw [if_pos rfl]
      rw [b01_pos ⟨fun _ => h31.mp a2, fun _ => hm1.mp a1⟩] at hfin
      exact ri hfin
    · rw [if_neg (by decide)]
      rw [b01_neg (fun z => a2 (h31.mpr (z.mp (hm1.mp a1))))] at hfin
      exact ri hfin
    · rw [if_neg (by decide)]
      rw [b01_neg (fun z => a1 (hm1.mpr (z.mpr (h31.mp a2))))] at hfin
      exact ri hfin
    · rw [if_pos rfl]
      rw [b01_pos ⟨fun z => absurd (hm1.mpr z) a1, fun z => absurd (h31.mpr z) a2⟩] at hfin
      exact ri hfin
  · rw [zle, z1, q3] at c4; have := q.2.2.2; omega
theorem tX12_isSo {x y : Int32} {e i : Nat} (hF : Fr G l F g p I) (hB : ByR I L e) (hI : Im I p (p 0) wk mn) (hz : zok wk mn) (hx : x.toInt = e) (hy : y.toInt = i) (hi : i ≤ 20)
    (h1 : ¬ (3 * (i : Int) + 2 < (I 59 e).toInt ∧ gdJ' (shf8 L e) g i) → Q 0 I L)
    (h2 : 3 * (i : Int) + 2 < (I 59 e).toInt → gdJ' (shf8 L e) g i → ∀ I', ag scM tcM I I' → Im I' p (p 0) (zcross F p (p 0) (shf8 L e (3 * i + 1)).toNat (shf8 L e (3 * i)).toNat 0 false wk mn).2.1 (zcross F p (p 0) (shf8 L e (3 * i + 1)).toNat (shf8 L e (3 * i)).toNat 0 false wk mn).2.2 → Q (b01 ((zcross F p (p 0) (shf8 L e (3 * i + 1)).toNat (shf8 L e (3 * i)).toNat 0 false wk mn).1 = -1 ↔ shf8 L e (3 * i + 2) = 1)) I' L) : cI G l mX12_isSo (d + 104) [.ref 71, .int x, .int y] I L Q := by
  have he := hB.1
  have hsz := hB.2.2.2.2.1
  have e3 : (3 * y).toInt = 3 * i := by rw [zmul (by rw [zl_3, hy]; omega) (by rw [zl_3, hy]; omega), zl_3, hy]
  have e3n : (3 * y).toInt = (3 * i : Nat) := by rw [e3]; omega
  have e32 : (3 * y + 2).toInt = 3 * i + 2 := by rw [zadd (by rw [e3, zl_2]; omega) (by rw [e3, zl_2]; omega), e3, zl_2]
  have k0 := z60a hx he e3n (by omega)
  have k1 : (60 * x + 3 * y + 1).toInt = 60 * (e : Int) + (3 * i : Nat) + 1 := by rw [zadd (by rw [k0, z1]; omega) (by rw [k0, z1]; omega), k0, z1]
  have k2 : (60 * x + 3 * y + 2).toInt = 60 * (e : Int) + (3 * i : Nat) + 2 := by rw [zadd (by rw [k0, zl_2]; omega) (by rw [k0, zl_2]; omega), k0, zl_2]
  have n0 : (60 * x + 3 * y).toNatClampNeg = 60 * e + 3 * i := by rw [znat, k0]; omega
  have n1 : (60 * x + 3 * y + 1).toNatClampNeg = 60 * e + (3 * i + 1) := by rw [znat, k1]; omega
  have n2 : (60 * x + 3 * y + 2).toNatClampNeg = 60 * e + (3 * i + 2) := by rw [znat, k2]; omega
  have hnx : x.toNatClampNeg = e := by rw [znat]; omega
  have hg := hF.1
  refine wX12_isSo_ok ?_
  unfold wX12_isSo
  rw [n0, n1, n2, hnx, hB.2.2.2.1]
  refine ⟨by rw [zin]; omega, ife (fun q => ri (h1 (fun z => ?_))) (fun q => ?_)⟩
  · rw [zle, e32] at q; have := z.1; omega
  · rw [zle, e32] at q
    have s0 := hB.2.2.2.2.2 (3 * i) (by omega)
    have s1 := hB.2.2.2.2.2 (3 * i + 1) (by omega)
    have s2 := hB.2.2.2.2.2 (3 * i + 2) (by omega)
    refine ⟨by rw [zin, k0]; omega, tX12_isGoer (by rw [hF.2.2.1]; omega) (ifz (fun c1 => ri (h1 (fun z => c1 ?_))) (fun c1 => ⟨by rw [zin, k1]; omega, tX12_isWay (ifz (fun c2 => ri (h1 (fun z => c2 ?_))) (fun c2 => ⟨by rw [zin, k2]; omega, tX12_within (ifz (fun c3 => ri (h1 (fun z => c3 ?_))) (fun c3 => ?_))⟩))⟩))⟩
    · rw [hF.2.2.1, s0.1]; exact z.2.1
    · rw [s1.1]; exact z.2.2.1
    · rw [s2.1]; exact z.2.2.2
    · rw [hF.2.2.1, s0.1] at c1
      rw [s1.1] at c2
      rw [s2.1] at c3
      have hgd : gdJ' (shf8 L e) g i := ⟨c1, c2, c3⟩
      have v0 : (L 91 (60 * e + 3 * i)).toInt32.toInt = ((shf8 L e (3 * i)).toNat : Nat) := by
        rw [s0.1, b32 s0.2]
        have : (L (62 + e) (3 * i)).toInt = shf8 L e (3 * i) := rfl
        omega
      have v1 : (L 91 (60 * e + (3 * i + 1))).toInt32.toInt = ((shf8 L e (3 * i + 1)).toNat : Nat) := by
        rw [s1.1, b32 s1.2]
        have : (L (62 + e) (3 * i + 1)).toInt = shf8 L e (3 * i + 1) := rfl
        omega
      have hw : (shf8 L e (3 * i + 1)).toNat < 3 := by
        have := hgd.2.1
        omega
      have hn : (((shf8 L e (3 * i)).toNat : Nat) : Int) < g := by
        have := hgd.1
        omega
      refine tX12_crosses hF hI hz (zst0 hF) v0 hn v1 hw (fun I8 ha8 hI8 _ => ?_)
      have hfin := h2 (by omega) hgd I8 (ha8.up rfl rfl) hI8
      have h21 : lg_cmp (L 91 (60 * e + (3 * i + 2))) 1 = 0 ↔ shf8 L e (3 * i + 2) = 1 := by
        rw [lcmp_eq, s2.1, ← Int64.toInt_inj]
        exact Iff.rfl
      unfold wX12_isSo_106
      refine ife (fun a2 => ife (fun a1 => ri ?_) (fun a1 => ri ?_)) (fun a2 => ife (fun a1 => ri ?_) (fun a1 => ri ?_))
      · rw [b01_1] at a1
        rw [b01_pos ⟨fun _ => h21.mp a2, fun _ => a1⟩] at hfin
        exact hfin
      · rw [b01_1] at a1
        rw [b01_neg (fun z => a1 (z.mpr (h21.mp a2)))] at hfin
        exact hfin
      · rw [b01_0] at a1
        rw [b01_pos ⟨fun z => absurd z a1, fun z => absurd (h21.mpr z) a2⟩] at hfin
        exact hfin
      · rw [b01_0] at a1
        have a1 : (zcross F p (p 0) (shf8 L e (3 * i + 1)).toNat (shf8 L e (3 * i)).toNat 0 false wk mn).1 = -1 := Classical.byContradiction a1
        rw [b01_neg (fun z => a2 (h21.mpr (z.mp a1)))] at hfin
        exact hfin
theorem T_judge {a : Int32} (h : Inv (LRl G l) k I L) (hk5 : k ≤ 512) (hk : ∀ r I' L', Inv (LRl G l) (k + 1) I' L' → K r r I' L') :
    cI G l mX11_judge (d + 109) [.ref 0, .int a] I L (fun r I1 L1 => cI G l mX12_judge (d + 109) [.ref 71, .int a] I1 L1 (fun r' I2 L2 => K r r' I2 L2)) := by
  obtain ⟨F, p, hF, hp⟩ := h.fr
  obtain ⟨hP, hC, hI, hT, hR, hD, hG, hA, hS, hM⟩ := id h
  have hz := dz h hk5
  have hmn := dmn h hk5
  have hg := hF.1
  have i25 : isIce 25 := by unfold isIce; decide
  have i32 : isIce 32 := by unfold isIce; decide
  refine scr2 h (shV (0 ≤ a.toInt ∧ a.toInt < 6) (I 89 a.toInt.toNat).toInt (zjud F p (I 1 1).toInt (shf8 L a.toInt.toNat) (I 59 a.toInt.toNat).toInt 21 0 (dwk I) (I 25 2).toInt)) (fun Q hq => ?_) (fun I1 ha Q hq => ?_) hk
  · refine wX11_judge_ok ?_
    unfold wX11_judge
    refine tX11_isShelf (ifz (fun c1 => ri (hq _ _ (by rw [shV_no c1]; rfl) ag.rf)) (fun c1 => tX9_bytesRef hS hA.2.1.2 c1 ?_))
    by_cases h50 : (I 89 a.toInt.toNat).toInt = 50
    · rw [bsV_50 h50, if_pos rfl]
      rw [shV_50 c1 h50] at hq
      have hB := hS.byr hA.2.1.2 (by omega) h50
      have hsz := hB.2.2.2.2.1
      refine tX3_follow i32 i25 (by decide) hF Ic_deed (fun I2 ha2 hI2 => tX9_sizeOf ?_)
      have e59 : I2 59 = I 59 := ha2.c 59
      rw [if_pos c1, e59]
      generalize hR2 : zjud F p (I 1 1).toInt (shf8 L a.toInt.toNat) (I 59 a.toInt.toNat).toInt 21 0 (dwk I) (I 25 2).toInt = R at hq
      have hae : a.toInt = (a.toInt.toNat : Nat) := by omega
      generalize a.toInt.toNat = e at *
      have key : ∀ (m i : Nat) J wk mn, i + m = 21 → ag scC [] I J → Ic 32 J (p 0) wk mn → zok wk mn → mn ≤ 20000 + 18 * i → zjud F p (I 1 1).toInt (shf8 L e) (I 59 e).toInt m i wk mn = R → wX11_judge_57 G l (d + 108) (fun v I' L' => ∃ r, v = some (.int r) ∧ Q r I' L') (m + 1) a (I 59 e) (Int32.ofNat (3 * i)) J L := by
        intro m
        induction m with
        | zero =>
          intro i J wk mn hi ha hJ hz' hm' hr
          unfold wX11_judge_57
          rw [if_pos (by rw [zle, zo (by omega)]; omega)]
          exact ri (hq _ _ (by rw [← hr]; rfl) ha)
        | succ m ih =>
          intro i J wk mn hi ha hJ hz' hm' hr
          unfold zjud at hr
          have e3 : Int32.ofNat (3 * i) + 3 = Int32.ofNat (3 * (i + 1)) := zof (by rw [zadd (by rw [zo (by omega), zl_3]; omega) (by rw [zo (by omega), zl_3]; omega), zo (by omega), zl_3]; omega)
          have d3 : (Int32.ofNat (3 * i) / 3).toInt = i := by rw [zdiv (by rw [zo (by omega)]; omega) (by decide), zo (by omega), zl_3]; omega
          unfold wX11_judge_57
          refine ife (fun q => ?_) (fun q => ife (fun q2 => ?_) (fun q2 => ?_))
          · rw [zle, zo (by omega)] at q
            rw [if_pos (by omega)] at hr
            exact ri (hq _ _ (by rw [← hr]; rfl) ha)
          · rw [zle, zo (by omega)] at q
            rw [e3, zlt, zo (by omega)] at q2
            rw [if_neg (by omega), if_neg (fun z => by omega)] at hr
            exact ri (hq _ _ (by rw [d3, ← hr]) ha)
          · rw [zle, zo (by omega)] at q
            rw [e3, zlt, zo (by omega)] at q2
            rw [if_neg (by omega)] at hr
            refine tX11_isSo (e := e) (i := i) (hF.ag ha rfl) (hB.ag ha rfl) hJ hz' hae (zo (by omega)) (by omega) (fun c => ?_) (fun c I' ha' hI' => ?_)
            · rw [if_pos rfl]
              rw [if_neg (fun z => c z.2.1)] at hr
              exact ri (hq _ _ (by rw [d3, ← hr]) ha)
            · have hzo := zcross_ok hF (st := p 0) (more := 0) (back := false) (way := (shf8 L e (3 * i + 1)).toNat) (n := (shf8 L e (3 * i)).toNat) (by have := c.2.1; omega) (by have := c.1; omega) (by decide) hz'
              have hall : ag scC [] I I' := ha.cl ha'
              refine ifz (fun c5 => ?_) (fun c5 => ?_)
              · rw [if_neg (fun z => c5 z.2.2)] at hr
                exact ri (hq _ _ (by rw [d3, ← hr]) hall)
              · rw [if_pos ⟨by omega, c, c5⟩] at hr
                rw [e3]
                exact ih (i + 1) I' _ _ (by omega) hall hI' ⟨hzo.1, by have := hz'.2; omega, by omega⟩ (by omega) hr
      exact ⟨_, key 21 0 I2 _ _ (by omega) (ha2.up rfl rfl) hI2 hz (by omega) hR2⟩
    · rw [if_neg (bsV_n h50).1]
      exact ri (hq _ _ (bsV_z c1 h50) ag.rf)
  · have e89 : I1 89 = I 89 := ha.c 89
    refine wX12_judge_ok ?_
    unfold wX12_judge
    by_cases c1 : 0 ≤ a.toInt ∧ a.toInt < 6
    case neg =>
      refine tX12_bytesNo c1 ?_
      rw [if_neg (by decide)]
      refine tX12_bytesNo c1 (ri ?_)
      exact hq _ _ (by rw [shV_no c1]; rfl) ag.rf
    refine tX12_bytesIs c1 ?_
    rw [e89]
    by_cases h50 : (I 89 a.toInt.toNat).toInt = 50
    · rw [bsV_50 h50, if_pos (by decide)]
      rw [shV_50 c1 h50] at hq
      have hB := hS.byr hA.2.1.2 (by omega) h50
      have hsz := hB.2.2.2.2.1
      refine tX12_begins1 ?_
      have hm : ag scM tcM I1 (u2 (cpk I1 80 76 24) 71 20 (I1 71 8)) := ag_begin.up rfl rfl
      have hIm := Im_begin (F := F) (g := (I 1 1).toInt) (p := p) h ha (by decide)
      generalize u2 (cpk I1 80 76 24) 71 20 (I1 71 8) = I2 at *
      generalize hR2 : zjud F p (I 1 1).toInt (shf8 L a.toInt.toNat) (I 59 a.toInt.toNat).toInt 21 0 (dwk I) (I 25 2).toInt = R at hq
      have hae : a.toInt = (a.toInt.toNat : Nat) := by omega
      have hin : vp_in a 6 := by rw [zin]; omega
      have hnx : a.toNatClampNeg = a.toInt.toNat := rfl
      generalize a.toInt.toNat = e at *
      have key : ∀ (m i : Nat) J wk mn, i + m = 21 → ag scM tcM I1 J → Im J p (p 0) wk mn → zok wk mn → mn ≤ 20000 + 18 * i → zjud F p (I 1 1).toInt (shf8 L e) (I 59 e).toInt m i wk mn = R → wX12_judge_20 G l (d + 108) (fun v I' L' => ∃ r, v = some (.int r) ∧ Q r I' L') (m + 1) a (Int32.ofNat i) J L := by
        intro m
        induction m with
        | zero =>
          intro i J wk mn hi haJ hJ hz' hm' hr
          have hall : ag (scC ++ scM) tcM I J := ha.th haJ
          have hBJ := hB.ag hall rfl
          have e59 : J 59 = I 59 := hall.c 59
          have e3 : (3 * Int32.ofNat i).toInt = 3 * i := by rw [zmul (by rw [zl_3, zo (by omega)]; omega) (by rw [zl_3, zo (by omega)]; omega), zl_3, zo (by omega)]
          unfold wX12_judge_20
          refine ⟨hin, ?_⟩
          rw [hnx, hBJ.2.2.2.1, e59, if_pos (by rw [zle, e3]; omega)]
          exact ri (hq _ _ (by rw [← hr]; rfl) haJ)
        | succ m ih =>
          intro i J wk mn hi haJ hJ hz' hm' hr
          have hall : ag (scC ++ scM) tcM I J := ha.th haJ
          have hBJ := hB.ag hall rfl
          have e59 : J 59 = I 59 := hall.c 59
          have e3 : (3 * Int32.ofNat i).toInt = 3 * i := by rw [zmul (by rw [zl_3, zo (by omega)]; omega) (by rw [zl_3, zo (by omega)]; omega), zl_3, zo (by omega)]
          unfold zjud at hr
          unfold wX12_judge_20
          refine ⟨hin, ?_⟩
          rw [hnx, hBJ.2.2.2.1, e59]
          refine ife (fun q => ?_) (fun q => ?_)
          · rw [zle, e3] at q
            rw [if_pos (by omega)] at hr
            exact ri (hq _ _ (by rw [← hr]; rfl) haJ)
          · rw [zle, e3] at q
            rw [if_neg (by omega)] at hr
            refine tX12_isSo (e := e) (i := i) (hF.ag hall rfl) hBJ hJ hz' hae (zo (by omega)) (by omega) (fun c => ?_) (fun c0 c I' ha' hI' => ?_)
            · rw [if_pos rfl]
              rw [e59] at c
              rw [if_neg (fun z => c ⟨z.1, z.2.1⟩)] at hr
              exact ri (hq _ _ (by rw [zo (by omega), ← hr]) haJ)
            · rw [e59] at c0
              have hzo := zcross_ok hF (st := p 0) (more := 0) (back := false) (way := (shf8 L e (3 * i + 1)).toNat) (n := (shf8 L e (3 * i)).toNat) (by have := c.2.1; omega) (by have := c.1; omega) (by decide) hz'
              have hall2 : ag scM tcM I1 I' := haJ.ml ha'
              refine ifz (fun c5 => ?_) (fun c5 => ?_)
              · rw [if_neg (fun z => c5 z.2.2)] at hr
                exact ri (hq _ _ (by rw [zo (by omega), ← hr]) hall2)
              · rw [if_pos ⟨c0, c, c5⟩] at hr
                rw [zsucc]
                exact ih (i + 1) I' _ _ (by omega) hall2 hI' ⟨hzo.1, by have := hz'.2; omega, by omega⟩ (by omega) hr
      exact ⟨_, key 21 0 I2 _ _ (by omega) hm hIm hz (by omega) hR2⟩
    · have := (bsV_n (x := 1) h50).2.1
      rw [if_neg (by rw [zle, z0]; omega)]
      refine tX12_bytesIs c1 (ri ?_)
      rw [e89]
      exact hq _ _ (bsV_z c1 h50) ag.rf
end JU

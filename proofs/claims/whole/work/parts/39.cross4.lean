/-! the reference's crossing; begins, lays; the class's ice follows -/
theorem zcross_ok {G : jG} {l : Launch} {F : Option lF} {g : Int} {p : Nat → Nat → Int} {I : jS} (hF : Fr G l F g p I) {st wk : Nat → Int} {mn : Int} {way n : Nat} {more : Int} {back : Bool} (hw : way < 3) (hn : (n : Int) < g) (hm : 0 ≤ more ∧ more ≤ 200) (ho : zok wk mn) :
    (∀ s, s < 24 → 0 ≤ (zcross F p st way n more back wk mn).2.1 s ∧ (zcross F p st way n more back wk mn).2.1 s ≤ 99) ∧ mn < (zcross F p st way n more back wk mn).2.2 ∧ (zcross F p st way n more back wk mn).2.2 ≤ mn + 18 := by
  have hk := (zready_ok hF hn hm).2.2
  have ht : 1 ≤ zt (zready p n more) ∧ zt (zready p n more) ≤ 18 := by
    unfold zt
    cases (zready p n more).1
    · rw [if_neg (by decide)]; omega
    · rw [if_pos rfl]; omega
  unfold zcross
  refine ⟨?_, by simp only; omega, by simp only; omega⟩
  exact zpass_ok (by omega) (fun s hs => (pok_1 (hF.sq hs (w := 1) (by decide)).2.2).1) (zgo_ok (fun k hk => zsq_lt hw hk) 8 0 wk (by omega) ho.1)
section C4
variable {G : jG} {l : Launch} {d : Nat} {F : Option lF} {g : Int} {p : Nat → Nat → Int} {I : jS} {L : jL} {c : zC} {st wk : Nat → Int} {mn : Int} {Q : Int32 → jS → jL → Prop} {Qv : jS → jL → Prop}
theorem tX12_crossesWith {x y z b : Int32} {way n : Nat} {more : Int} {back : Bool} (hF : Fr G l F g p I) (hI : Im I p st wk mn) (ho : zok wk mn) (hst : zstok st) (hx : x.toInt = n) (hn : (n : Int) < g) (hy : y.toInt = way) (hw : way < 3) (hz : z.toInt = more) (hm : 0 ≤ more ∧ more ≤ 200) (hb : b = if back then 1 else 0)
    (h : ∀ I', ag [79, 80] [13, 14, 15, 16, 17, 20, 24] I I' → Im I' p st (zcross F p st way n more back wk mn).2.1 (zcross F p st way n more back wk mn).2.2 → ((zcross F p st way n more back wk mn).1 ≠ -1 → (I' 71 24).toInt = (zcross F p st way n more back wk mn).1) → Q (b01 ((zcross F p st way n more back wk mn).1 = -1)) I' L) : cI G l mX12_crossesWith (d + 102) [.ref 71, .int x, .int y, .int z, .int b] I L Q := by
  have hg := hF.1
  have b4 := pok_4 (hF.go hn (w := 4) (by decide)).2.2
  have b5 := pok_5 (hF.go hn (w := 5) (by decide)).2.2
  have b6 := pok_6 (hF.go hn (w := 6) (by decide)).2.2
  have b7 := pok_7 (hF.go hn (w := 7) (by decide)).2.2
  have hk := zready_ok hF hn hm
  have hsq : ∀ k, k < 8 → zsq way back k < 24 := fun k hk => zsq_lt hw hk
  unfold zcross at h
  have c1 : (zready p n more).1 = decide (p 5 n ≠ 0) := rfl
  have c2 : (zready p n more).2.1 = if p 5 n ≠ 0 then (p 4 n + more + 1) / 2 else p 4 n + more := rfl
  have c3 : (zready p n more).2.2.1 = p 6 n + more / 4 := rfl
  have c4 : (zready p n more).2.2.2 = p 7 n := rfl
  generalize zready p n more = c at *
  have hZo := zgo_ok (F := F) (c := c) (st := st) (mn := mn) (sun := p 8 0) hsq 8 0 wk (by omega) ho.1
  generalize hZ : zgo F c st mn (p 8 0) (zsq way back) 8 0 wk = Z at h hZo
  have d4 : (z / 4).toInt = more / 4 := by rw [zdiv (by omega) (by decide), hz, zl_4]
  -- behind the walk
  have last : ∀ (r f : Int32) J wk', f = (if c.1 then 1 else 0) → r = b01 (Z.1 = -1) → wk' = Z.2 → ag [79, 80] [13, 14, 15, 16, 17, 24] I J → Im J p st wk' mn → (Z.1 ≠ -1 → (J 71 24).toInt = Z.1) → wX12_crossesWith_193 G l (d + 101) (fun v I' L' => ∃ r, v = some (.int r) ∧ Q r I' L') x f r J L := fun r f J wk' hf hr hwk ha hJ h24 => by
    subst hwk
    have hFJ := hF.ag ha rfl
    have fin : ∀ t : Int32, t.toInt = zt c → wX12_crossesWith_216 G l (d + 101) (fun v I' L' => ∃ r, v = some (.int r) ∧ Q r I' L') r t J L := fun t ht => by
      unfold wX12_crossesWith_216
      have ht2 : 0 ≤ zt c ∧ zt c ≤ 1000 := by
        unfold zt
        by_cases q : c.1 = true
        · rw [if_pos q]; omega
        · rw [if_neg q]; omega
      refine tX12_passes hFJ hJ ⟨hZo, ho.2⟩ ht ht2 (fun I' ha' hI' => ⟨by rw [hr]; exact b01_or, ri ?_⟩)
      rw [hr]
      refine h I' ((ha.mono (S' := [79, 80]) (T' := [13, 14, 15, 16, 17, 20, 24]) (by simp) (by simp)).tr (ha'.mono (S' := [79, 80]) (T' := [13, 14, 15, 16, 17, 20, 24]) (by simp) (by simp)) (by simp) (by simp)) hI' (fun q => ?_)
      rw [ha'.m 24]; exact h24 q
    unfold wX12_crossesWith_193
    cases hc1 : c.1 with
    | false =>
      rw [hc1] at hf
      have hf' : f = 0 := hf
      rw [if_pos hf']
      refine tX12_ofGoer hFJ hx hn (w := 3) (by decide) (by decide) (fun r1 h1 => fin r1 ?_)
      unfold zt
      rw [hc1, c4]
      exact h1
    | true =>
      rw [hc1] at hf
      have hf' : f = 1 := hf
      rw [if_neg (by rw [hf']; decide)]
      refine tX12_ofGoer hFJ hx hn (w := 3) (by decide) (by decide) (fun r1 h1 => fin _ ?_)
      have h1 : r1.toInt = p 7 n := h1
      unfold zt
      rw [hc1, c4, zmul (by rw [zl_2, h1]; omega) (by rw [zl_2, h1]; omega), zl_2, h1]
      rfl
  have y8 : (8 * y).toInt = 8 * way := by rw [zmul (by rw [hy, zl_8]; omega) (by rw [hy, zl_8]; omega), hy, zl_8]
  have key : ∀ (f t8 t7 : Int32), f = (if c.1 then 1 else 0) → t7.toInt = c.2.1 → t8.toInt = c.2.2.1 → ∀ m k J wk', k + m = 8 → ag [79, 80] [13, 14, 15, 16, 17, 24] I J → Im J p st wk' mn → (∀ s, s < 24 → 0 ≤ wk' s ∧ wk' s ≤ 99) → zgo F c st mn (p 8 0) (zsq way back) m k wk' = Z → wX12_crossesWith_63 G l (d + 101) (fun v I' L' => ∃ r, v = some (.int r) ∧ Q r I' L') (m + 1) x y b f t7 t8 1 (Int32.ofNat k) J L := by
    intro f t8 t7 hf h7 h8 m
    induction m with
    | zero =>
      intro k J wk' hkm ha hJ ho' he
      have : k = 8 := by omega
      subst this
      unfold wX12_crossesWith_63
      rw [if_pos (by decide)]
      unfold zgo at he
      exact last _ _ _ _ hf (by rw [← he, b01_pos rfl]) (by rw [← he]) ha hJ (fun q => absurd (by rw [← he]) q)
    | succ m ih =>
      intro k J wk' hkm ha hJ ho' he
      have hFJ := hF.ag ha rfl
      unfold wX12_crossesWith_63
      rw [if_neg (by rw [zle, zo (by omega), zl_8]; omega), if_neg (by decide)]
      have body : ∀ t1 : Int32, (8 * y + t1).toInt = (zsq way back k : Nat) → wX12_crossesWith_94 G l (d + 101) (fun z0 z1 z2 z3 z4 z5 z6 z7 I L => wX12_crossesWith_63 G l (d + 101) (fun v I' L' => ∃ r, v = some (.int r) ∧ Q r I' L') (m + 1) z0 z1 z2 z3 z4 z5 z6 z7 I L) (fun v I' L' => ∃ r, v = some (.int r) ∧ Q r I' L') x y b f t7 t8 (Int32.ofNat k) (8 * y) t1 J L := fun t1 ht1 => by
        have hs24 := hsq k (by omega)
        have hin : vp_in (8 * y + t1) 24 := by rw [zin, ht1]; omega
        have hnat : (8 * y + t1).toNatClampNeg = zsq way back k := by rw [znat, ht1]; omega
        have hw2 := ho' _ hs24
        unfold wX12_crossesWith_94
        refine tX12_bearsAt hFJ hJ ⟨ho', ho.2⟩ hst ht1 hs24 (fun r1 h1 => ife (fun q => ?_) (fun q => ?_))
        · rw [zlt, h1, h7] at q
          unfold wX12_crossesWith_113
          rw [if_pos rfl]
          refine ⟨hin, ?_⟩
          rw [hnat, zsucc]
          have hfin : ∀ m', wX12_crossesWith_63 G l (d + 101) (fun v I' L' => ∃ r, v = some (.int r) ∧ Q r I' L') (m' + 1) x y b f t7 t8 0 (Int32.ofNat (k + 1)) (u2 (u2 J 80 (zsq way back k) 99) 71 24 (8 * y + t1)) L := fun m' => by
            unfold zgo at he
            rw [if_neg (by omega)] at he
            have hlast := last 0 f (u2 (u2 J 80 (zsq way back k) 99) 71 24 (8 * y + t1)) (zup wk' (zsq way back k) 99) hf (by rw [← he, b01_neg (by simp only; omega)]) (by rw [← he]) (agm (agu ha (by simp) (by decide)) (by simp)) ⟨fun i hi => ?_, fun i hi => ?_, ?_⟩ (fun _ => by rw [u2e, ht1, ← he])
            · unfold wX12_crossesWith_63
              refine ife (fun _ => hlast) (fun _ => ?_)
              rw [if_pos rfl]
              exact hlast
            · have := hJ.1 i hi
              simp only [u2_ap]
              simpa using this
            · rw [u2n (by decide), u2_ap]
              unfold zup
              by_cases hi2 : i = zsq way back k
              · rw [if_pos ⟨rfl, hi2⟩, if_pos hi2]; rfl
              · rw [if_neg (fun z => hi2 z.2), if_neg hi2]; exact hJ.2.1 i hi
            · have := hJ.2.2
              simp only [u2_ap]
              simpa using this
          exact hfin m
        · rw [zlt, h1, h7] at q
          unfold wX12_crossesWith_113
          rw [if_neg (by decide)]
          refine ⟨hin, tX12_ofGoer hFJ hx hn (w := 3) (by decide) (by decide) (fun r3 h3 => ?_)⟩
          refine tX12_weakerBy hFJ hJ ⟨ho', ho.2⟩ hst hk h7 h8 (by rw [c4]; exact h3) hf ht1 hs24 (fun r4 J2 p1 p2 p3 ha2 => ?_)
          rw [hnat, zsucc]
          have hJ2 := hJ.ag ha2 (by decide) (by decide)
          have ha3 : ag [79, 80] [13, 14, 15, 16, 17, 24] I J2 := ha.tr (ha2.mono (S' := [79, 80]) (T' := [13, 14, 15, 16, 17, 24]) (by simp) (by simp)) (by simp) (by simp)
          have e1 : (J 80 (zsq way back k) + r4).toInt = wk' (zsq way back k) + r4.toInt := by rw [zadd (by rw [hJ.2.1 _ hs24]; omega) (by rw [hJ.2.1 _ hs24]; omega), hJ.2.1 _ hs24]
          have go : ∀ v : Int32, v.toInt = min 99 (wk' (zsq way back k) + zW F c (zB st wk' mn (p 8 0) (zsq way back k)) (zsq way back k) mn) → wX12_crossesWith_63 G l (d + 101) (fun v I' L' => ∃ r, v = some (.int r) ∧ Q r I' L') (m + 1) x y b f t7 t8 1 (Int32.ofNat (k + 1)) (u2 J2 80 (zsq way back k) v) L := fun v hv => by
            refine ih (k + 1) _ (zS F c st mn (p 8 0) (zsq way back k) wk') (by omega) (agu ha3 (by simp) (by decide)) ⟨fun i hi => ?_, fun i hi => ?_, ?_⟩ (zS_ok ho' hs24) ?_
            · rw [u2n (by decide), u2n (by decide), u2n (by decide)]; exact hJ2.1 i hi
            · rw [u2_ap]
              unfold zS zup
              by_cases hi2 : i = zsq way back k
              · rw [if_pos ⟨rfl, hi2⟩, if_pos hi2, if_pos (by omega)]; exact hv
              · rw [if_neg (fun z => hi2 z.2), if_neg hi2]; exact hJ2.2.1 i hi
            · rw [u2n (by decide)]; exact hJ2.2.2
            · rw [← he]
              conv => rhs; unfold zgo
              rw [if_pos (by omega)]
          refine ife (fun q2 => go _ ?_) (fun q2 => go _ ?_)
          · rw [zle, e1, zl_99] at q2
            rw [e1, ← p3]
            omega
          · rw [zle, e1, zl_99] at q2
            rw [zl_99, ← p3]
            omega
      cases back with
      | false =>
        have hb' : b = 0 := hb
        rw [if_pos hb']
        refine body _ ?_
        rw [zadd (by rw [y8, zo (by omega)]; omega) (by rw [y8, zo (by omega)]; omega), y8, zo (by omega)]
        unfold zsq
        simp
      | true =>
        have hb' : b = 1 := hb
        rw [if_neg (by rw [hb']; decide)]
        refine body _ ?_
        have e7 : (7 - Int32.ofNat k).toInt = 7 - k := by rw [zsub (by rw [zl_7, zo (by omega)]; omega) (by rw [zl_7, zo (by omega)]; omega), zl_7, zo (by omega)]
        rw [zadd (by rw [y8, e7]; omega) (by rw [y8, e7]; omega), y8, e7]
        unfold zsq
        simp
        omega
  have s1 : ∀ r : Int32, r.toInt = p 4 n → (r + z).toInt = p 4 n + more := fun r hr => by rw [zadd (by rw [hr, hz]; omega) (by rw [hr, hz]; omega), hr, hz]
  have s2 : ∀ r : Int32, r.toInt = p 4 n → ((r + z + 1) / 2).toInt = (p 4 n + more + 1) / 2 := fun r hr => by
    have q : (r + z + 1).toInt = p 4 n + more + 1 := by rw [zadd (by rw [s1 r hr, z1]; omega) (by rw [s1 r hr, z1]; omega), s1 r hr, z1]
    rw [zdiv (by rw [q]; omega) (by decide), q, zl_2]
  have mid : ∀ (f t : Int32), f = (if c.1 then 1 else 0) → t.toInt = c.2.1 → wX12_crossesWith_43 G l (d + 101) (fun v I' L' => ∃ r, v = some (.int r) ∧ Q r I' L') x y z b f t I L := fun f t hf ht => by
    unfold wX12_crossesWith_43
    refine tX12_ofGoer hF hx hn (w := 2) (by decide) (by decide) (fun r h1 => ⟨_, key f _ t hf ht ?_ 8 0 I wk (by omega) ag.rf hI ho.1 hZ⟩)
    have h1 : r.toInt = p 6 n := h1
    rw [c3, zadd (by rw [h1, d4]; omega) (by rw [h1, d4]; omega), h1, d4]
  refine wX12_crossesWith_ok ?_
  unfold wX12_crossesWith
  refine tX12_ofGoer hF hx hn (w := 1) (by decide) (by decide) (fun r1 h1 => ife (fun q => ?_) (fun q => ?_))
  · rw [zeq, h1, z1] at q
    unfold wX12_crossesWith_15
    refine tX12_ofGoer hF hx hn (w := 0) (by decide) (by decide) (fun r2 h2 => ?_)
    rw [if_neg (by decide)]
    refine mid _ _ ?_ ?_
    · rw [c1, if_pos (by rw [q]; decide)]
    · rw [c2, if_pos (by rw [q]; decide)]
      exact s2 r2 h2
  · rw [zeq, h1, z1] at q
    have q : ¬ p 5 n = 1 := q
    have q0 : p 5 n = 0 := by omega
    unfold wX12_crossesWith_15
    refine tX12_ofGoer hF hx hn (w := 0) (by decide) (by decide) (fun r2 h2 => ?_)
    rw [if_pos rfl]
    refine mid _ _ ?_ ?_
    · rw [c1, if_neg (by rw [q0]; decide)]
    · rw [c2, if_neg (by rw [q0]; decide)]
      exact s1 r2 h2
theorem tX12_crosses {x y : Int32} {way n : Nat} (hF : Fr G l F g p I) (hI : Im I p st wk mn) (ho : zok wk mn) (hst : zstok st) (hx : x.toInt = n) (hn : (n : Int) < g) (hy : y.toInt = way) (hw : way < 3)
    (h : ∀ I', ag [79, 80] [13, 14, 15, 16, 17, 20, 24] I I' → Im I' p st (zcross F p st way n 0 false wk mn).2.1 (zcross F p st way n 0 false wk mn).2.2 → ((zcross F p st way n 0 false wk mn).1 ≠ -1 → (I' 71 24).toInt = (zcross F p st way n 0 false wk mn).1) → Q (b01 ((zcross F p st way n 0 false wk mn).1 = -1)) I' L) : cI G l mX12_crosses (d + 103) [.ref 71, .int x, .int y] I L Q := by
  refine wX12_crosses_ok ?_
  unfold wX12_crosses
  exact tX12_crossesWith (back := false) hF hI ho hst hx hn hy hw (more := 0) (by decide) (by decide) (by rfl) (fun I' a b c => ⟨b01_or, ri (h I' a b c)⟩)
theorem tX12_begins1 (h : Qv (u2 (cpk I 80 76 24) 71 20 (I 71 8)) L) : cV G l mX12_begins1 (d + 1) [.ref 71] I L Qv := by
  refine wX12_begins1_ok (Q := fun v I' L' => v = none ∧ Qv I' L') ?_
  unfold wX12_begins1
  have key : ∀ m k, k + m = 24 → wX12_begins1_2 G l d (fun v I' L' => v = none ∧ Qv I' L') (m + 1) (Int32.ofNat k) (cpk I 80 76 k) L := by
    intro m
    induction m with
    | zero =>
      intro k hk
      have : k = 24 := by omega
      subst this
      unfold wX12_begins1_2
      rw [if_pos (by decide), cpk_ne (by decide)]
      exact ⟨rfl, h⟩
    | succ m ih =>
      intro k hk
      unfold wX12_begins1_2
      rw [if_neg (by rw [zle, zo (by omega), zl_24]; omega)]
      refine ⟨by rw [zin, zo (by omega)]; omega, ?_⟩
      rw [zon (by omega), zsucc, cpk_src (by decide), cpk_succ (by decide)]
      exact ih (k + 1) (by omega)
  have := key 24 0 (by omega)
  rw [cpk_zero] at this
  exact ⟨_, this⟩
theorem tX12_lays (h : Qv (u2 (cpk I 76 80 24) 71 8 (I 71 20)) L) : cV G l mX12_lays (d + 1) [.ref 71] I L Qv := by
  refine wX12_lays_ok (Q := fun v I' L' => v = none ∧ Qv I' L') ?_
  unfold wX12_lays
  have key : ∀ m k, k + m = 24 → wX12_lays_2 G l d (fun v I' L' => v = none ∧ Qv I' L') (m + 1) (Int32.ofNat k) (cpk I 76 80 k) L := by
    intro m
    induction m with
    | zero =>
      intro k hk
      have : k = 24 := by omega
      subst this
      unfold wX12_lays_2
      rw [if_pos (by decide), cpk_ne (by decide)]
      exact ⟨rfl, h⟩
    | succ m ih =>
      intro k hk
      unfold wX12_lays_2
      rw [if_neg (by rw [zle, zo (by omega), zl_24]; omega)]
      refine ⟨by rw [zin, zo (by omega)]; omega, ?_⟩
      rw [zon (by omega), zsucc, cpk_src (by decide), cpk_succ (by decide)]
      exact ih (k + 1) (by omega)
  have := key 24 0 (by omega)
  rw [cpk_zero] at this
  exact ⟨_, this⟩
theorem tX3_layStrength {ic : Nat} (hic : isIce ic) (h : Qv (cpk I (ic + 1) 3 24) L) : cV G l mX3_layStrength (d + 1) [.ref 23, .ref ic] I L Qv := by
  refine wX3_layStrength_ok hic (Q := fun v I' L' => v = none ∧ Qv I' L') ?_
  unfold wX3_layStrength
  refine ⟨jcok0 (n := 24) (by decide) (by decide) (by decide), rfl, ?_⟩
  rw [jcpy_cpk (n := 24) (by decide)]
  exact h
theorem tX3_follow {ic ic2 : Nat} (hic : isIce ic) (hic2 : isIce ic2) (hne : ic ≠ ic2) (hF : Fr G l F g p I) (hI : Ic ic2 I st wk mn)
    (h : ∀ I', ag [ic, ic + 1, ic + 2] [] I I' → Ic ic I' (p 0) wk mn → Qv I' L) : cV G l mX3_follow (d + 2) [.ref 23, .ref ic, .ref ic2] I L Qv := by
  have hn := ice71 hic
  have hn2 := ice71 hic2
  have hd : ic2 ≠ ic + 2 ∧ ic2 ≠ ic + 1 ∧ ic2 + 2 ≠ ic := by unfold isIce at hic hic2; omega
  refine wX3_follow_ok hic hic2 (Q := fun v I' L' => v = none ∧ Qv I' L') ?_
  unfold wX3_follow
  refine ⟨jcok0 (n := 24) (by decide) (by decide) (by decide), ?_⟩
  rw [jcpy_cpk (n := 24) (by decide)]
  refine tX3_layStrength hic ⟨rfl, h _ ?_ ⟨fun i hi => ?_, fun i hi => ?_, ?_⟩⟩
  · exact agc (agu (agc ag.rf (by simp) hn.2.2.1) (by simp) hn.1) (by simp) hn.2.1
  · rw [cpk_eq hi, u2n (by omega), cpk_ne (by omega)]
    exact (hF.sq hi (w := 0) (by decide)).1
  · rw [cpk_ne (by omega), u2n (by omega), cpk_eq hi]
    exact hI.2.1 i hi
  · rw [cpk_ne (by omega), u2e, cpk_ne (by omega)]
    exact hI.2.2
end C4

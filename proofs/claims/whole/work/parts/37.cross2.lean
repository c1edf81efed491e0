/-! the class's crosser: steps, minutes, a crossing, a wait -/
theorem zmin99 {x : Int32} : (if x < (99 : Int32) then x else 99).toInt = min 99 x.toInt := by
  by_cases h : x < (99 : Int32)
  · rw [if_pos h]
    rw [zlt, zl_99] at h
    omega
  · rw [if_neg h]
    rw [zlt, zl_99] at h
    rw [zl_99]
    omega
theorem noFr_ic {ic : Nat} (h : isIce ic) : noFr [ic, ic + 2, 21, 22, 23] [] = true := by
  rcases h with rfl | rfl | rfl | rfl <;> rfl
theorem ice71 {ic : Nat} (h : isIce ic) : ic ≠ 71 ∧ ic + 1 ≠ 71 ∧ ic + 2 ≠ 71 ∧ 24 < ic ∧ ic ≠ 23 := by
  unfold isIce at h; omega
def mixk (k : Nat) (a b : Nat → Int) : Nat → Int := fun s => if s < k then a s else b s
theorem mixk_lt {k s : Nat} {a b : Nat → Int} (h : s < k) : mixk k a b s = a s := if_pos h
theorem mixk_ge {k s : Nat} {a b : Nat → Int} (h : ¬ s < k) : mixk k a b s = b s := if_neg h
section C2
variable {G : jG} {l : Launch} {d : Nat} {F : Option lF} {g : Int} {p : Nat → Nat → Int} {I : jS} {L : jL} {ic : Nat} {c : zC} {st wk : Nat → Int} {mn : Int} {Q : Int32 → jS → jL → Prop} {Qv : jS → jL → Prop}
theorem Ic.ag {S T : List Nat} {I' : jS} (h : Ic ic I st wk mn) (hic : isIce ic) (ha : ag S T I I') (h0 : ic ∉ S) (h1 : ic + 1 ∉ S) (h2 : ic + 2 ∉ S) : Ic ic I' st wk mn := by
  have hn := ice71 hic
  unfold Ic
  rw [ha.1 ic hn.1 h0, ha.1 (ic + 1) hn.2.1 h1, ha.1 (ic + 2) hn.2.2.1 h2]
  exact h
theorem Cr.ag {S T : List Nat} {I' : jS} (h : Cr I c) (ha : ag S T I I') (h0 : 23 ∉ S) : Cr I' c := by
  unfold Cr
  rw [ha.1 23 (by decide) h0]
  exact h
theorem tX6_isTold (h : Q (if (I 17 9).toInt ≤ 0 then 0 else 1) I L) : cI G l mX6_isTold (d + 1) [.ref 17] I L Q := by
  refine wX6_isTold_ok ?_
  unfold wX6_isTold
  refine ife (fun q => ri ?_) (fun q => ri ?_)
  · rw [zle, z0] at q
    rw [if_pos q] at h; exact h
  · rw [zle, z0] at q
    rw [if_neg q] at h; exact h
def nam (I : jS) (r : Nat) (a b c e f i : Int32) : jS := u2 (u2 (u2 (u2 (u2 (u2 I r 0 a) r 1 b) r 2 c) r 3 e) r 4 f) r 5 i
theorem tX6_name {a b c e f i : Int32} (h : Qv (nam I 22 a b c e f i) L) : cV G l mX6_name (d + 1) [.ref 17, .int a, .int b, .int c, .int e, .int f, .int i] I L Qv := by
  refine wX6_name_ok ?_
  unfold wX6_name
  exact ⟨rfl, h⟩
theorem nam_ag {r : Nat} {a b c e f i : Int32} (h71 : r ≠ 71) : ag [r] [] I (nam I r a b c e f i) :=
  agu (agu (agu (agu (agu (agu ag.rf (by simp) h71) (by simp) h71) (by simp) h71) (by simp) h71) (by simp) h71) (by simp) h71
theorem nam_v {r : Nat} {a b c e f i : Int32} : nam I r a b c e f i r 0 = a ∧ nam I r a b c e f i r 1 = b ∧ nam I r a b c e f i r 2 = c ∧ nam I r a b c e f i r 3 = e ∧ nam I r a b c e f i r 4 = f ∧ nam I r a b c e f i r 5 = i := by
  unfold nam
  simp [u2_ap]
theorem tX3_weaker {x b : Int32} {s : Nat} (hic : isIce ic) (hF : Fr G l F g p I) (hc : Cr I c) (hk : cok c) (hmn : (I ic 2).toInt = mn) (hx : x.toInt = s) (hs : s < 24)
    (h : ∀ (r : Int32) I', r.toInt = zW F c b.toInt s mn → ag [21, 22] [] I I' → Q r I' L) : cI G l mX3_weaker (d + 3) [.ref 23, .ref ic, .int x, .int b] I L Q := by
  have hn := ice71 hic
  have hLW := hF.2.2.2.2
  have tail : ∀ t0 : Int32, t0.toInt = (if c.1 then c.2.2.1 / 2 else c.2.2.1) → wX3_weaker_20 G l (d + 2) ic (fun v I' L' => ∃ r, v = some (.int r) ∧ Q r I' L') x b t0 I L := fun t0 ht => by
    unfold wX3_weaker_20
    cases F with
    | none =>
      refine tX6_isTold ?_
      rw [if_pos hLW.1, if_pos rfl]
      unfold wX3_weaker_69
      refine ri (h _ _ ?_ ag.rf)
      rw [zmax0, zmin99, ht]
      rfl
    | some f =>
      refine tX6_isTold ?_
      rw [show (if (I 17 9).toInt ≤ 0 then (0 : Int32) else 1) = 1 from if_neg (by have := hLW.1; omega), if_neg (by decide)]
      refine tX6_name ?_
      have hag := nam_ag (I := I) (r := 22) (a := I 23 2) (b := I 23 3) (c := I 23 4) (e := b) (f := x - x / 8 * 8) (i := I ic 2) (by decide)
      refine hLW.2.2.1 d _ _ _ (by rw [hag.c 17]) (hag.c 20) (fun I' ha => ?_)
      obtain ⟨v0, v1, v2, v3, v4, v5⟩ := nam_v (I := I) (r := 22) (a := I 23 2) (b := I 23 3) (c := I 23 4) (e := b) (f := x - x / 8 * 8) (i := I ic 2)
      rw [v0, v1, v2, v3, v4, v5]
      unfold wX3_weaker_69
      refine ri (h _ _ ?_ ((hag.mono (S' := [21, 22]) (T' := []) (by simp) (by simp)).tr (ha.mono (S' := [21, 22]) (T' := []) (by simp) (by simp)) (by simp) (by simp)))
      rw [zmax0, zmin99]
      unfold zW
      simp only
      rw [zoi hc.1, zoi hc.2.1, zoi hc.2.2.1, zoi rfl, zoi hmn, ← zmod8 hx (by omega)]
  refine wX3_weaker_ok hic ?_
  unfold wX3_weaker
  cases hc1 : c.1 with
  | false =>
    have h5 : I 23 5 = 0 := by rw [hc.2.2.2, hc1]; rfl
    rw [h5, if_pos rfl]
    exact tail _ (by rw [hc1]; exact hc.2.1)
  | true =>
    have h5 : I 23 5 = 1 := by rw [hc.2.2.2, hc1]; rfl
    rw [h5, if_neg (by decide)]
    refine tail _ ?_
    rw [hc1, if_pos rfl, zdiv (by rw [hc.2.1]; exact hk.2.1.1) (by decide), hc.2.1, zl_2]
/-- who is ready steps on a square -/
theorem tX3_steps {x : Int32} {s : Nat} (hic : isIce ic) (hF : Fr G l F g p I) (hc : Cr I c) (hk : cok c) (hI : Ic ic I st wk mn) (ho : zok wk mn) (hst : zstok st) (hx : x.toInt = s) (hs : s < 24)
    (h : ∀ I', ag [ic + 2, 21, 22] [] I I' → Ic ic I' st (zS F c st mn (p 8 0) s wk) mn → Q (b01 (c.2.1 ≤ zB st wk mn (p 8 0) s)) I' L) : cI G l mX3_steps (d + 4) [.ref 23, .ref ic, .int x] I L Q := by
  have hn := ice71 hic
  have hxs : x.toNatClampNeg = s := by rw [znat]; omega
  have hin : vp_in x 24 := by rw [zin]; omega
  have k1 := ho.1 s hs
  have fin : ∀ (t0 t : Int32) I', t0 = b01 (c.2.1 ≤ zB st wk mn (p 8 0) s) → t.toInt = (if c.2.1 ≤ zB st wk mn (p 8 0) s then zW F c (zB st wk mn (p 8 0) s) s mn else 99) → ag [21, 22] [] I I' → wX3_steps_49 G l (d + 3) ic (fun v I' L' => ∃ r, v = some (.int r) ∧ Q r I' L') x t0 t I' L := fun t0 t I' ht0 ht ha => by
    have hI' := hI.ag hic ha (by simp; omega) (by simp; omega) (by simp; omega)
    have hb := zW_b (F := F) (c := c) (b := zB st wk mn (p 8 0) s) (s := s) (mn := mn)
    have hb2 : 0 ≤ t.toInt ∧ t.toInt ≤ 99 := by
      rw [ht]
      by_cases q : c.2.1 ≤ zB st wk mn (p 8 0) s
      · rw [if_pos q]; exact hb
      · rw [if_neg q]; omega
    have e1 : (I' (ic + 2) s + t).toInt = wk s + t.toInt := by rw [zadd (by rw [hI'.2.1 s hs]; omega) (by rw [hI'.2.1 s hs]; omega), hI'.2.1 s hs]
    unfold wX3_steps_49
    refine ⟨hin, by rw [ht0]; exact b01_or, ?_⟩
    rw [hxs, ht0]
    refine ri (h _ (agu (ha.mono (by simp) (by simp)) (by simp) hn.2.2.1) ⟨fun i hi => ?_, fun i hi => ?_, ?_⟩)
    · rw [u2n (by omega)]; exact hI'.1 i hi
    · rw [u2_ap]
      unfold zS zup
      by_cases hi2 : i = s
      · rw [if_pos ⟨rfl, hi2⟩, if_pos hi2, zmin99, e1, ht]
        by_cases q : c.2.1 ≤ zB st wk mn (p 8 0) s
        · rw [if_pos q, if_pos q]
        · rw [if_neg q, if_neg q]; omega
      · rw [if_neg (fun q => hi2 q.2), if_neg hi2]; exact hI'.2.1 i hi
    · rw [u2n (by omega)]; exact hI'.2.2
  refine wX3_steps_ok hic ?_
  unfold wX3_steps
  refine tX11_isSquare (ifz (fun q => absurd (by omega) q) (fun _ => ?_))
  refine tX3_bearing hic hF hI ho hst hx hs (w := 0) (by decide) (by decide) (fun r hr => ?_)
  have hr2 : r.toInt = zB st wk mn (p 8 0) s := by
    rw [hr]; unfold zB; rw [Int.zero_mul]; omega
  refine ife (fun q => ?_) (fun q => ?_)
  · rw [zlt, hr2, hc.1] at q
    unfold wX3_steps_30
    rw [if_pos rfl]
    exact fin _ _ _ (by rw [b01_neg (by omega)]) (by rw [if_neg (by omega)]; rfl) ag.rf
  · rw [zlt, hr2, hc.1] at q
    unfold wX3_steps_30
    rw [if_neg (by decide)]
    refine tX3_weaker hic hF hc hk hI.2.2 hx hs (fun r1 I' h1 ha => ?_)
    rw [hr2] at h1
    exact fin _ _ _ (by rw [b01_pos (by omega)]) (by rw [if_pos (by omega)]; exact h1) ha
/-- minutes pass -/
theorem tX3_pass {x : Int32} {n : Int} (hic : isIce ic) (hF : Fr G l F g p I) (hI : Ic ic I st wk mn) (ho : zok wk mn) (hx : x.toInt = n) (hn0 : 0 ≤ n ∧ n ≤ 1000)
    (h : ∀ I', ag [ic, ic + 2] [] I I' → Ic ic I' st (zpass p n wk) (mn + n) → Qv I' L) : cV G l mX3_pass (d + 2) [.ref 23, .ref ic, .int x] I L Qv := by
  have hn := ice71 hic
  refine wX3_pass_ok hic (Q := fun v I' L' => v = none ∧ Qv I' L') ?_
  unfold wX3_pass
  have key : ∀ m k J, k + m = 24 → ag [ic, ic + 2] [] I J → Ic ic J st (mixk k (zpass p n wk) wk) mn → wX3_pass_2 G l (d + 1) ic (fun v I' L' => v = none ∧ Qv I' L') (m + 1) x (Int32.ofNat k) J L := by
    intro m
    induction m with
    | zero =>
      intro k J hk ha hJ
      have : k = 24 := by omega
      subst this
      unfold wX3_pass_2
      rw [if_pos (by decide)]
      refine ⟨rfl, h _ (agu ha (by simp) hn.1) ⟨fun i hi => ?_, fun i hi => ?_, ?_⟩⟩
      · rw [u2n (by omega)]; exact hJ.1 i hi
      · rw [u2n (by omega), hJ.2.1 i hi, mixk_lt hi]
      · have hm := ho.2
        rw [u2e, zadd (by rw [hJ.2.2, hx]; omega) (by rw [hJ.2.2, hx]; omega), hJ.2.2, hx]
    | succ m ih =>
      intro k J hk ha hJ
      have hFJ := hF.ag ha (by rcases hic with rfl | rfl | rfl | rfl <;> rfl)
      obtain ⟨a1, -, b1⟩ := hFJ.sq (s := k) (by omega) (w := 1) (by decide)
      have b1 := pok_1 b1
      unfold wX3_pass_2
      rw [if_neg (by rw [zle, zo (by omega), zl_24]; omega)]
      refine tX7_get' (zo (k := k) (by omega)) (b := 1) (v := p 1 k) (by decide) (by omega) (by decide) a1 (fun r hr => ⟨by rw [zin, zo (by omega)]; omega, ?_⟩)
      rw [zon (by omega), zsucc]
      have hmu : 0 ≤ n * p 1 k ∧ n * p 1 k ≤ 1000 * 9 := ⟨Int.mul_nonneg hn0.1 b1.1, Int.mul_le_mul hn0.2 b1.2 b1.1 (by decide)⟩
      have m1 : (x * r).toInt = n * p 1 k := by rw [zmul (by rw [hx, hr]; omega) (by rw [hx, hr]; omega), hx, hr]
      have w1 : (J (ic + 2) k).toInt = wk k := by rw [hJ.2.1 k (by omega), mixk_ge (by omega)]
      have w2 := ho.1 k (by omega)
      have m2 : (J (ic + 2) k - x * r).toInt = wk k - n * p 1 k := by rw [zsub (by rw [m1, w1]; omega) (by rw [m1, w1]; omega), m1, w1]
      refine ih (k + 1) _ (by omega) (agu ha (by simp) hn.2.2.1) ⟨fun i hi => ?_, fun i hi => ?_, ?_⟩
      · rw [u2n (by omega)]; exact hJ.1 i hi
      · rw [u2_ap]
        by_cases hi2 : i = k
        · subst hi2
          rw [if_pos ⟨rfl, rfl⟩, mixk_lt (by omega), zmax0, m2]
          rfl
        · rw [if_neg (fun q => hi2 q.2), hJ.2.1 i hi]
          by_cases q : i < k
          · rw [mixk_lt q, mixk_lt (by omega)]
          · rw [mixk_ge q, mixk_ge (by omega)]
      · rw [u2n (by omega)]; exact hJ.2.2
  exact ⟨_, key 24 0 I (by omega) ag.rf ⟨hI.1, fun i hi => by rw [mixk_ge (by omega)]; exact hI.2.1 i hi, hI.2.2⟩⟩
theorem tX3_passBehind (hic : isIce ic) (hF : Fr G l F g p I) (hc : Cr I c) (hk : cok c) (hI : Ic ic I st wk mn) (ho : zok wk mn)
    (h : ∀ I', ag [ic, ic + 2] [] I I' → Ic ic I' st (zpass p (zt c) wk) (mn + zt c) → Qv I' L) : cV G l mX3_passBehind (d + 3) [.ref 23, .ref ic] I L Qv := by
  refine wX3_passBehind_ok hic (Q := fun v I' L' => v = none ∧ Qv I' L') ?_
  unfold wX3_passBehind
  have k2 := hk.2.2
  cases hc1 : c.1 with
  | false =>
    have h5 : I 23 5 = 0 := by rw [hc.2.2.2, hc1]; rfl
    have ht : zt c = c.2.2.2 := by unfold zt; rw [hc1]; rfl
    rw [ht] at h
    rw [h5, if_pos rfl]
    unfold wX3_passBehind_22
    exact tX3_pass hic hF hI ho hc.2.2.1 (by omega) (fun I' a b => ⟨rfl, h I' a b⟩)
  | true =>
    have h5 : I 23 5 = 1 := by rw [hc.2.2.2, hc1]; rfl
    have ht : zt c = 2 * c.2.2.2 := by unfold zt; rw [hc1]; rfl
    rw [ht] at h
    rw [h5, if_neg (by decide)]
    unfold wX3_passBehind_22
    have e : (I 23 4 * 2).toInt = 2 * c.2.2.2 := by rw [zmul (by rw [hc.2.2.1, zl_2]; omega) (by rw [hc.2.2.1, zl_2]; omega), hc.2.2.1, zl_2]; omega
    exact tX3_pass hic hF hI ho e (by omega) (fun I' a b => ⟨rfl, h I' a b⟩)
/-- a crossing -/
theorem tX3_cross {x y z b : Int32} {way n : Nat} {more : Int} {back : Bool} (hic : isIce ic) (hF : Fr G l F g p I) (hI : Ic ic I st wk mn) (ho : zok wk mn) (hst : zstok st) (hx : x.toInt = way) (hw : way < 3) (hy : y.toInt = n) (hn : (n : Int) < g) (hz : z.toInt = more) (hm : 0 ≤ more ∧ more ≤ 200) (hb : b = if back then 1 else 0)
    (h : ∀ (r : Int32) I', r.toInt = (zcross F p st way n more back wk mn).1 → ag [ic, ic + 2, 21, 22, 23] [] I I' → Ic ic I' st (zcross F p st way n more back wk mn).2.1 (zcross F p st way n more back wk mn).2.2 → Q r I' L) : cI G l mX3_cross (d + 5) [.ref 23, .ref ic, .int x, .int y, .int z, .int b] I L Q := by
  have hic71 := ice71 hic
  refine wX3_cross_ok hic ?_
  unfold wX3_cross
  refine tX3_ready hF hy hn hz hm (fun I1 ha1 hc => ?_)
  have hk := zready_ok hF hn hm
  unfold zcross at h
  generalize hcc : zready p n more = c at *
  have hsq : ∀ k, k < 8 → zsq way back k < 24 := fun k hk => zsq_lt hw hk
  have hI1 := hI.ag hic ha1 (by simp; omega) (by simp; omega) (by simp; omega)
  have hZo := zgo_ok (F := F) (c := c) (st := st) (mn := mn) (sun := p 8 0) hsq 8 0 wk (by omega) ho.1
  generalize hZ : zgo F c st mn (p 8 0) (zsq way back) 8 0 wk = Z at h hZo
  have last : ∀ (r : Int32) J wk', r.toInt = Z.1 → wk' = Z.2 → ag [ic + 2, 21, 22, 23] [] I J → Cr J c → Ic ic J st wk' mn → wX3_cross_68 G l (d + 4) ic (fun v I' L' => ∃ r, v = some (.int r) ∧ Q r I' L') r J L := fun r J wk' hr hwk ha hc' hJ => by
    subst hwk
    unfold wX3_cross_68
    have hFJ := hF.ag ha (by rcases hic with rfl | rfl | rfl | rfl <;> rfl)
    refine tX3_passBehind hic hFJ hc' hk hJ ⟨hZo, ho.2⟩ (fun I' hb hJ' => ri (h r I' hr ?_ hJ'))
    exact (ha.mono (S' := [ic, ic + 2, 21, 22, 23]) (T' := []) (by simp) (by simp)).tr (hb.mono (S' := [ic, ic + 2, 21, 22, 23]) (T' := []) (by simp) (by simp)) (by simp) (by simp)
  have key : ∀ m k J wk', k + m = 8 → ag [ic + 2, 21, 22, 23] [] I J → Cr J c → Ic ic J st wk' mn → (∀ s, s < 24 → 0 ≤ wk' s ∧ wk' s ≤ 99) → zgo F c st mn (p 8 0) (zsq way back) m k wk' = Z → wX3_cross_13 G l (d + 4) ic (fun v I' L' => ∃ r, v = some (.int r) ∧ Q r I' L') (m + 1) x b (-1) (Int32.ofNat k) J L := by
    intro m
    induction m with
    | zero =>
      intro k J wk' hkm ha hc' hJ ho' he
      have : k = 8 := by omega
      subst this
      unfold wX3_cross_13
      rw [if_pos (by decide)]
      unfold zgo at he
      exact last _ _ _ (by rw [← he]; rfl) (by rw [← he]) ha hc' hJ
    | succ m ih =>
      intro k J wk' hkm ha hc' hJ ho' he
      have hFJ := hF.ag ha (by rcases hic with rfl | rfl | rfl | rfl <;> rfl)
      unfold wX3_cross_13
      rw [if_neg (by rw [zle, zo (by omega), zl_8]; omega), if_pos rfl]
      have body : ∀ t1 : Int32, (x * 8 + t1).toInt = (zsq way back k : Nat) → wX3_cross_45 G l (d + 4) ic (fun z0 z1 z2 z3 I L => wX3_cross_13 G l (d + 4) ic (fun v I' L' => ∃ r, v = some (.int r) ∧ Q r I' L') (m + 1) z0 z1 z2 z3 I L) (fun v I' L' => ∃ r, v = some (.int r) ∧ Q r I' L') x b (-1) (Int32.ofNat k) (x * 8) t1 J L := fun t1 ht1 => by
        unfold wX3_cross_45
        refine tX3_steps hic hFJ hc' hk hJ ⟨ho', ho.2⟩ hst ht1 (hsq k (by omega)) (fun J2 ha2 hJ2 => ?_)
        have ha3 : ag [ic + 2, 21, 22, 23] [] I J2 := ha.tr (ha2.mono (S' := [ic + 2, 21, 22, 23]) (T' := []) (by simp) (by simp)) (by simp) (by simp)
        have hc2 := hc'.ag ha2 (by simp; omega)
        rw [zsucc]
        refine ifz (fun q => ?_) (fun q => ?_)
        · have hfin : ∀ m', wX3_cross_13 G l (d + 4) ic (fun v I' L' => ∃ r, v = some (.int r) ∧ Q r I' L') (m' + 1) x b (x * 8 + t1) (Int32.ofNat (k + 1)) J2 L := fun m' => by
            unfold zgo at he
            rw [if_neg q] at he
            have hlast := last (x * 8 + t1) J2 (zS F c st mn (p 8 0) (zsq way back k) wk') (by rw [← he]; exact ht1) (by rw [← he]; unfold zS; rw [if_neg q]) ha3 hc2 hJ2
            unfold wX3_cross_13
            refine ife (fun _ => hlast) (fun _ => ?_)
            rw [if_neg (by rw [zeq, ht1]; have : (-1 : Int32).toInt = -1 := by decide
                           rw [this]; omega)]
            exact hlast
          exact hfin m
        · refine ih (k + 1) J2 _ (by omega) ha3 hc2 hJ2 (zS_ok ho' (hsq k (by omega))) ?_
          rw [← he]
          conv => rhs; unfold zgo
          rw [if_pos q]
      have x8 : (x * 8).toInt = way * 8 := by rw [zmul (by rw [hx, zl_8]; omega) (by rw [hx, zl_8]; omega), hx, zl_8]
      cases back with
      | false =>
        have hb' : b = 0 := hb
        rw [if_pos hb']
        refine body _ ?_
        rw [zadd (by rw [x8, zo (by omega)]; omega) (by rw [x8, zo (by omega)]; omega), x8, zo (by omega)]
        unfold zsq
        simp
        omega
      | true =>
        have hb' : b = 1 := hb
        rw [if_neg (by rw [hb']; decide)]
        refine body _ ?_
        have e7 : (7 - Int32.ofNat k).toInt = 7 - k := by rw [zsub (by rw [zl_7, zo (by omega)]; omega) (by rw [zl_7, zo (by omega)]; omega), zl_7, zo (by omega)]
        rw [zadd (by rw [x8, e7]; omega) (by rw [x8, e7]; omega), x8, e7]
        unfold zsq
        simp
        omega
  exact ⟨_, key 8 0 I1 wk (by omega) (ha1.mono (by simp) (by simp)) hc hI1 ho.1 hZ⟩
end C2

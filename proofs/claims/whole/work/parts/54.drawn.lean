/-! drawn -/
/-- the strength with some squares of a way thin -/
def tst (p : Nat → Nat → Int) (way : Nat) (B : Nat → Bool) : Nat → Int := fun s => p 0 s - (if s / 8 = way ∧ B (s % 8) = true then p 3 s else 0)
def tstm (p : Nat → Nat → Int) (way : Nat) (B : Nat → Bool) (m : Nat) : Nat → Int := tst p way (fun j => decide (j < m) && B j)
section TT
variable {p : Nat → Nat → Int} {way m s : Nat} {B : Nat → Bool}
theorem tst_off (h : s / 8 ≠ way) : tst p way B s = p 0 s := by
  unfold tst
  rw [if_neg (fun q => h q.1)]
  omega
theorem tst_at {k : Nat} (hk : k < 8) : tst p way B (8 * way + k) = p 0 (8 * way + k) - (if B k = true then p 3 (8 * way + k) else 0) := by
  unfold tst
  have e1 : (8 * way + k) / 8 = way := by omega
  have e2 : (8 * way + k) % 8 = k := by omega
  rw [e1, e2]
  by_cases h : B k = true
  · rw [if_pos ⟨rfl, h⟩, if_pos h]
  · rw [if_neg (fun q => h q.2), if_neg h]
theorem tstm_0 : tstm p way B 0 s = p 0 s := by
  unfold tstm tst
  rw [if_neg (fun q => by simp at q)]
  omega
theorem tstm_8 : tstm p way B 8 s = tst p way B s := by
  unfold tstm tst
  have : decide (s % 8 < 8) = true := decide_eq_true (by omega)
  simp only [this, Bool.true_and]
theorem tstm_ne (h : s ≠ 8 * way + m) : tstm p way B (m + 1) s = tstm p way B m s := by
  unfold tstm tst
  by_cases e : s / 8 = way
  · have : decide (s % 8 < m + 1) = decide (s % 8 < m) := by
      by_cases q : s % 8 < m
      · rw [decide_eq_true q, decide_eq_true (by omega)]
      · rw [decide_eq_false q, decide_eq_false (by omega)]
    simp only [this]
  · rw [if_neg (fun q => e q.1), if_neg (fun q => e q.1)]
theorem tstm_e (hm : m < 8) : tstm p way B m (8 * way + m) = p 0 (8 * way + m) := by
  unfold tstm
  rw [tst_at hm, if_neg (by simp)]
  omega
theorem tstm_e1 (hm : m < 8) : tstm p way B (m + 1) (8 * way + m) = p 0 (8 * way + m) - (if B m = true then p 3 (8 * way + m) else 0) := by
  unfold tstm
  rw [tst_at hm]
  simp
theorem rst_t {tw ts : Int32} (htw : tw.toInt = way) (hb : ∀ k, k < 8 → bt ts k = B k) : rst (-1) tw ts p s = tst p way B s := by
  unfold rst tst
  rw [if_pos (by decide), htw]
  have e : (((s / 8 : Nat) : Int) = (way : Int) ∧ bitP ts (Int32.ofNat (s % 8))) ↔ (s / 8 = way ∧ B (s % 8) = true) := by
    rw [bitP_bt (by omega), hb (s % 8) (by omega)]
    exact ⟨fun z => ⟨by have := z.1; omega, z.2⟩, fun z => ⟨by have := z.1; omega, z.2⟩⟩
  by_cases q : s / 8 = way ∧ B (s % 8) = true
  · rw [if_pos q, if_pos (e.mpr q)]
  · rw [if_neg q, if_neg (fun z => q (e.mp z))]
end TT
theorem tst_ok {G : jG} {l : Launch} {F : Option lF} {g : Int} {p : Nat → Nat → Int} {I : jS} (hF : Fr G l F g p I) {way : Nat} {B : Nat → Bool} : zstok (tst p way B) := fun s hs => by
  have a := pok_0 (hF.sq hs (w := 0) (by decide)).2.2
  have b := pok_3 (hF.sq hs (w := 3) (by decide)).2.2
  unfold tst
  by_cases q : s / 8 = way ∧ B (s % 8) = true
  · rw [if_pos q]; omega
  · rw [if_neg q]; omega
def dzn (z : Int32) : Nat → Int32
  | 0 => z
  | k + 1 => dzn z k * 1103515245 + 12345
def drv (z : Int32) (k : Nat) : Int := (jushr (dzn z (k + 1)) 8 - jushr (dzn z (k + 1)) 8 / 12 * 12).toInt
def dB (p : Nat → Nat → Int) (way : Nat) (z : Int32) (k : Nat) : Bool := decide (drv z k < p 2 (8 * way + k))
def nz (z : Int32) : Nat → Int32
  | 0 => z
  | i + 1 => dzn (nz z i) 8
def nsum (f : Nat → Int) : Nat → Int
  | 0 => 0
  | i + 1 => nsum f i + f i
theorem nsum_b {f : Nat → Int} (h : ∀ i, 0 ≤ f i ∧ f i ≤ 7) : ∀ i, 0 ≤ nsum f i ∧ nsum f i ≤ 7 * i := by
  intro i
  induction i with
  | zero => unfold nsum; omega
  | succ i ih => unfold nsum; have := h i; omega
def nV (F : Option lF) (p : Nat → Nat → Int) (I : jS) (way gn : Nat) (z : Int32) (i : Nat) : Int := (zL F p (tst p way (dB p way (nz z i))) way ((List.range' 0 gn).map (fun i => i)) (0, dwk I, (I 25 2).toInt)).1
def nW (F : Option lF) (p : Nat → Nat → Int) (I : jS) (way gn : Nat) (z : Int32) (i : Nat) : Int := if nV F p I way gn z i = gn then 1 else 0
section DR
variable {G : jG} {l : Launch} {d k : Nat} {F : Option lF} {g : Int} {p : Nat → Nat → Int} {I : jS} {L : jL} {ic : Nat} {c : zC} {st wk : Nat → Int} {mn : Int} {Q : Int32 → jS → jL → Prop} {Qv : jS → jL → Prop} {K : Int32 → Int32 → jS → jL → Prop}
theorem tX3_thin {x : Int32} {s : Nat} (hic : isIce ic) (hF : Fr G l F g p I) (hI : Ic ic I st wk mn) (hst : zstok st) (hx : x.toInt = s) (hs : s < 24)
    (h : ∀ I', ag [ic + 1] [] I I' → Ic ic I' (zup st s (st s - p 3 s)) wk mn → Qv I' L) : cV G l mX3_thin (d + 2) [.ref 23, .ref ic, .int x] I L Qv := by
  have hn := ice71 hic
  have hxs : x.toNatClampNeg = s := by rw [znat]; omega
  have b3 := hF.sq hs (w := 3) (by decide)
  have p3 := pok_3 b3.2.2
  have s1 := hst s hs
  refine wX3_thin_ok hic (Q := fun v I' L' => v = none ∧ Qv I' L') ?_
  unfold wX3_thin
  refine tX11_isSquare (ifz (fun q => absurd (by omega) q) (fun _ => ⟨by rw [zin]; omega, ?_⟩))
  refine tX7_get' hx (b := 3) (v := p 3 s) (by decide) hs (by decide) b3.1 (fun r hr => ⟨rfl, h _ (agu ag.rf (by simp) hn.2.1) ⟨fun i hi => ?_, fun i hi => ?_, ?_⟩⟩)
  · rw [hxs, u2_ap]
    unfold zup
    by_cases q : i = s
    · rw [if_pos ⟨rfl, q⟩, if_pos q, zsub (by rw [hI.1 s hs, hr]; omega) (by rw [hI.1 s hs, hr]; omega), hI.1 s hs, hr]
    · rw [if_neg (fun z => q z.2), if_neg q]; exact hI.1 i hi
  · rw [u2n (by omega)]; exact hI.2.1 i hi
  · rw [u2n (by omega)]; exact hI.2.2
theorem Ic.cg {st' wk' : Nat → Int} (h : Ic ic I st wk mn) (h1 : ∀ s, s < 24 → st s = st' s) (h2 : ∀ s, s < 24 → wk s = wk' s) : Ic ic I st' wk' mn :=
  ⟨fun s hs => by rw [h.1 s hs, h1 s hs], fun s hs => by rw [h.2.1 s hs, h2 s hs], h.2.2⟩
theorem tX3_draw {x z : Int32} {way : Nat} (hic : isIce ic) (hF : Fr G l F g p I) (hI : Ic ic I (p 0) wk mn) (hx : x.toInt = way) (hw : way < 3)
    (h : ∀ I', ag [ic + 1] [] I I' → Ic ic I' (tst p way (dB p way z)) wk mn → Q (dzn z 8) I' L) : cI G l mX3_draw (d + 3) [.ref 23, .ref ic, .int x, .int z] I L Q := by
  have hn := ice71 hic
  refine wX3_draw_ok hic ?_
  unfold wX3_draw
  have key : ∀ (m i : Nat) J, i + m = 8 → ag [ic + 1] [] I J → Ic ic J (tstm p way (dB p way z) i) wk mn → wX3_draw_6 G l (d + 2) ic (fun v I' L' => ∃ r, v = some (.int r) ∧ Q r I' L') (m + 1) x (dzn z i) (Int32.ofNat i) J L := by
    intro m
    induction m with
    | zero =>
      intro i J hi ha hJ
      have : i = 8 := by omega
      subst this
      unfold wX3_draw_6
      rw [if_pos (by decide)]
      exact ri (h J ha (hJ.cg (fun s _ => tstm_8) (fun _ _ => rfl)))
    | succ m ih =>
      intro i J hi ha hJ
      have hFJ := hF.ag ha (by rcases hic with rfl | rfl | rfl | rfl <;> rfl)
      have x8 : (x * 8).toInt = way * 8 := by rw [zmul (by rw [hx, zl_8]; omega) (by rw [hx, zl_8]; omega), hx, zl_8]
      have xk : (x * 8 + Int32.ofNat i).toInt = ((8 * way + i : Nat) : Int) := by rw [zadd (by rw [x8, zo (by omega)]; omega) (by rw [x8, zo (by omega)]; omega), x8, zo (by omega)]; omega
      have e : dzn z i * 1103515245 + 12345 = dzn z (i + 1) := rfl
      unfold wX3_draw_6
      rw [if_neg (by rw [zle, zo (by omega), zl_8]; omega), e, zsucc]
      refine tX7_get' xk (b := 2) (v := p 2 (8 * way + i)) (by decide) (by omega) (by decide) (hFJ.sq (by omega) (w := 2) (by decide)).1 (fun r hr => ife (fun q => ?_) (fun q => ?_))
      · rw [zle, hr] at q
        have hB : dB p way z i = false := by unfold dB; rw [decide_eq_false_iff_not]; exact Int.not_lt.mpr q
        refine ih (i + 1) J (by omega) ha (hJ.cg (fun s _ => ?_) (fun _ _ => rfl))
        by_cases q2 : s = 8 * way + i
        · rw [q2, tstm_e (by omega), tstm_e1 (by omega), hB, if_neg (by decide)]; omega
        · rw [tstm_ne q2]
      · rw [zle, hr] at q
        have hB : dB p way z i = true := by unfold dB; rw [decide_eq_true_iff]; exact Int.not_le.mp q
        have hst : zstok (tstm p way (dB p way z) i) := by unfold tstm; exact tst_ok hF
        refine tX3_thin hic hFJ hJ hst xk (by omega) (fun J2 ha2 hJ2 => ih (i + 1) J2 (by omega) (ha.tr ha2 (fun _ q => q) (fun _ q => q)) (hJ2.cg (fun s _ => ?_) (fun _ _ => rfl)))
        unfold zup
        by_cases q2 : s = 8 * way + i
        · rw [if_pos q2, q2, tstm_e (by omega), tstm_e1 (by omega), hB, if_pos rfl]
        · rw [if_neg q2, tstm_ne q2]
  exact ⟨_, key 8 0 I (by omega) ag.rf (hI.cg (fun s _ => tstm_0.symm) (fun _ _ => rfl))⟩
theorem SO_id {gn : Nat} : SO (rk p 3) (fun i => i) gn := ⟨fun i hi => hi, fun x hx => ⟨x, hx, rfl⟩, fun i j hij _ => Or.inr ⟨rfl, hij⟩⟩
theorem zdm10 {b : Int32} (h : 0 ≤ b.toInt) : (b / 10).toInt = b.toInt / 10 ∧ (b - b / 10 * 10).toInt = b.toInt % 10 := by
  have hr := zrange b
  have e1 : (b / 10).toInt = b.toInt / 10 := by rw [zdiv h (by decide), zl_10]
  have e2 : (b / 10 * 10).toInt = b.toInt / 10 * 10 := by rw [zmul (by rw [e1, zl_10]; omega) (by rw [e1, zl_10]; omega), e1, zl_10]
  refine ⟨e1, ?_⟩
  rw [zsub (by rw [e2]; omega) (by rw [e2]; omega), e2]
  omega
theorem nV_b (hF : Fr G l F g p I) (hz : zok (dwk I) (I 25 2).toInt) (hmn : (I 25 2).toInt ≤ 100000) {way gn : Nat} {z : Int32} (hgn : g = gn) (hw : way < 3) (i : Nat) : 0 ≤ nV F p I way gn z i ∧ nV F p I way gn z i ≤ gn := by
  have hg := hF.1
  have := (zL_ok (st := tst p way (dB p way (nz z i))) (way := way) hF (B := (I 25 2).toInt) ⟨hz.2.1, by omega⟩ (by omega) ((List.range' 0 gn).map (fun i => i)) 0 (0, dwk I, (I 25 2).toInt) (by simp; omega) (fun n hn => by
    obtain ⟨j, hj, e⟩ := List.mem_map.mp hn
    have := (List.mem_range'_1.mp hj).2
    omega) ⟨by simp, hz.1, hz.2.1, by simp⟩).1
  rw [List.length_map, List.length_range'] at this
  unfold nV
  omega
theorem T_drawn {a b c : Int32} (h : Inv (LRl G l) k I L) (hk5 : k ≤ 512) (hk : ∀ r I' L', Inv (LRl G l) (k + 1) I' L' → K r r I' L') :
    cI G l mX11_drawn (d + 109) [.ref 0, .int a, .int b, .int c] I L (fun r I1 L1 => cI G l mX12_drawn (d + 109) [.ref 71, .int a, .int b, .int c] I1 L1 (fun r' I2 L2 => K r r' I2 L2)) := by
  obtain ⟨F, p, hF, hp⟩ := h.fr
  obtain ⟨hP, hC, hI, hT, hR, hD, hG, hA, hS, hM⟩ := id h
  have hz := dz h hk5
  have hmn := dmn h hk5
  have hg := hF.1
  have i25 : isIce 25 := by unfold isIce; decide
  have i32 : isIce 32 := by unfold isIce; decide
  have hgn : (I 1 1).toInt = ((I 1 1).toInt.toNat : Nat) := by omega
  generalize (I 1 1).toInt.toNat = gn at hgn
  refine scr2 h (if 10 ≤ b.toInt ∧ b.toInt / 10 ≤ 20 ∧ b.toInt % 10 < 3 ∧ 0 ≤ c.toInt ∧ c.toInt ≤ 1 then (if c.toInt = 0 then nsum (nV F p I (b.toInt % 10).toNat gn a) (b.toInt / 10).toNat else nsum (nW F p I (b.toInt % 10).toNat gn a) (b.toInt / 10).toNat) else -1) (fun Q hq => ?_) (fun I1 ha Q hq => ?_) hk
  · refine wX11_drawn_ok ?_
    unfold wX11_drawn
    refine ife (fun c1 => ri (hq _ _ ?_ ag.rf)) (fun c1 => ?_)
    · rw [zlt, zl_10] at c1
      rw [if_neg (by omega)]; rfl
    rw [zlt, zl_10] at c1
    obtain ⟨hN, hW⟩ := zdm10 (b := b) (by omega)
    generalize b / 10 = nb at *
    generalize b - nb * 10 = wb at *
    refine ife (fun c2 => ri (hq _ _ ?_ ag.rf)) (fun c2 => tX11_isWay (ifz (fun c3 => ri (hq _ _ ?_ ag.rf)) (fun c3 => ife (fun c4 => ri (hq _ _ ?_ ag.rf)) (fun c4 => ife (fun c5 => ?_) (fun c5 => ri (hq _ _ ?_ ag.rf))))))
    · rw [zlt, zl_20, hN] at c2
      rw [if_neg (by omega)]; rfl
    · rw [hW] at c3
      rw [if_neg (by omega)]; rfl
    · rw [zlt, z0] at c4
      rw [if_neg (by omega)]; rfl
    · rw [zlt, zl_20, hN] at c2
      rw [hW] at c3
      rw [zlt, z0] at c4
      rw [zle, z1] at c5
      rw [if_pos (by omega)] at hq
      have hw3 : (b.toInt % 10).toNat < 3 := by omega
      have hWn : wb.toInt = ((b.toInt % 10).toNat : Nat) := by omega
      have hNn : nb.toInt = ((b.toInt / 10).toNat : Nat) := by omega
      have hn20 : (b.toInt / 10).toNat ≤ 20 := by omega
      generalize (b.toInt % 10).toNat = way at *
      generalize (b.toInt / 10).toNat = N at *
      have hvb := fun i => nV_b (z := a) hF hz (by omega) hgn hw3 i
      have hwb : ∀ i, 0 ≤ nW F p I way gn a i ∧ nW F p I way gn a i ≤ 7 := fun i => by
        unfold nW
        by_cases q : nV F p I way gn a i = gn
        · rw [if_pos q]; omega
        · rw [if_neg q]; omega
      have hs1 := nsum_b (f := nV F p I way gn a) (fun i => by have := hvb i; omega)
      have hs2 := nsum_b hwb
      refine wX10_byNumbers_ok (Q := fun v I' L' => v = none ∧ ∃ e67 : Nat, wX11_drawn_67 G l (d + 108) (fun v I' L' => ∃ r, v = some (.int r) ∧ Q r I' L') e67 c nb wb a 0 0 0 I' L') ?_
      unfold wX10_byNumbers
      refine tX10_byRule hF hgn (r := 3) (by decide) (fun J1 o1 ha1 hO1 hS1 => ⟨rfl, ?_⟩)
      have hO1' : Od J1 (fun i => i) gn := hO1.cg (SO_one hS1 SO_id)
      have key : ∀ (m i : Nat) J (x7 x8 : Int32), i + m = N → ag scC [] I J → Od J (fun i => i) gn → x7.toInt = nsum (nV F p I way gn a) i → x8.toInt = nsum (nW F p I way gn a) i → wX11_drawn_67 G l (d + 108) (fun v I' L' => ∃ r, v = some (.int r) ∧ Q r I' L') (m + 1) c nb wb (nz a i) x7 x8 (Int32.ofNat i) J L := by
        intro m
        induction m with
        | zero =>
          intro i J x7 x8 hi haJ hOJ h7 h8
          have : i = N := by omega
          subst this
          unfold wX11_drawn_67
          rw [if_pos (by rw [zle, hNn, zo (by omega)]; omega)]
          refine ife (fun q => ri (hq _ _ ?_ haJ)) (fun q => ri (hq _ _ ?_ haJ))
          · rw [zeq, z0] at q
            rw [if_pos q]; exact h7
          · rw [zeq, z0] at q
            rw [if_neg q]; exact h8
        | succ m ih =>
          intro i J x7 x8 hi haJ hOJ h7 h8
          unfold wX11_drawn_67
          rw [if_neg (by rw [zle, hNn, zo (by omega)]; omega)]
          refine tX3_follow i32 i25 (by decide) (hF.ag haJ rfl) (Ic_deed.ag i25 haJ (by decide) (by decide) (by decide)) (fun J2 ha2 hJ2 => ?_)
          have hb2 : ag scC [] I J2 := haJ.cl ha2
          refine tX3_draw i32 (hF.ag hb2 rfl) hJ2 hWn hw3 (fun J3 ha3 hJ3 => ?_)
          have hb3 : ag scC [] I J3 := hb2.cl ha3
          have hO3 := (hOJ.ag ha2 rfl rfl).ag ha3 rfl rfl
          refine tX10_walk (o := fun i => i) (hF.ag hb3 rfl) hO3 (fun i hi => by omega) hJ3 hz (by omega) (tst_ok hF) hWn hw3 (fun J4 ha4 hO4 h6 _ hJ4 => ?_)
          have hb4 : ag scC [] I J4 := hb3.cl ha4
          have e1 := congrArg Prod.fst (zrun_L (F := F) (p := p) (st := tst p way (dB p way (nz a i))) (way := way) (o := fun i => i) gn 0 (0, -2, dwk I, (I 25 2).toInt))
          simp only at e1
          rw [e1] at h6
          have h6 : (J4 31 6).toInt = nV F p I way gn a i := h6
          have hv := hvb i
          have hw' := hwb i
          have hz1 := hs1 i
          have hz2 := hs2 i
          have e7 : (x7 + J4 31 6).toInt = nsum (nV F p I way gn a) (i + 1) := by
            rw [zadd (by rw [h7, h6]; omega) (by rw [h7, h6]; omega), h7, h6]; rfl
          have hnz : dzn (nz a i) 8 = nz a (i + 1) := rfl
          have hws : nsum (nW F p I way gn a) (i + 1) = nsum (nW F p I way gn a) i + nW F p I way gn a i := rfl
          rw [hnz, zsucc]
          refine ife (fun q => ih (i + 1) J4 _ _ (by omega) hb4 hO4 e7 ?_) (fun q => ih (i + 1) J4 _ _ (by omega) hb4 hO4 e7 ?_)
          · rw [zeq, h6, hO4.1] at q
            have : nW F p I way gn a i = 1 := if_pos q
            rw [zadd (by rw [h8, z1]; omega) (by rw [h8, z1]; omega), h8, z1, hws, this]
          · rw [zeq, h6, hO4.1] at q
            have : nW F p I way gn a i = 0 := if_neg q
            rw [Int32.add_zero, h8, hws, this]; omega
      exact ⟨_, key N 0 J1 0 0 (by omega) (ha1.up rfl rfl) hO1' rfl rfl⟩
    · rw [zle, z1] at c5
      rw [if_neg (by omega)]; rfl
  · refine wX12_drawn_ok ?_
    unfold wX12_drawn
    refine ife (fun c1 => ri (hq _ _ ?_ ag.rf)) (fun c1 => ?_)
    · rw [zlt, z0] at c1
      rw [if_neg (by omega)]; rfl
    rw [zlt, z0] at c1
    obtain ⟨hN, hW⟩ := zdm10 (b := b) (by omega)
    generalize hnb : b / 10 = nb at *
    generalize b - nb * 10 = wb at *
    refine tX12_win (a := 1) (b := 20) (by decide) (by decide) (ifz (fun c2 => ri (hq _ _ ?_ ag.rf)) (fun c2 => tX12_isWay (ifz (fun c3 => ri (hq _ _ ?_ ag.rf)) (fun c3 => tX12_win (a := 0) (b := 1) (by decide) (by decide) (ifz (fun c4 => ri (hq _ _ ?_ ag.rf)) (fun c4 => ?_))))))
    · rw [hN] at c2
      rw [if_neg (by omega)]; rfl
    · rw [z64, hW] at c3
      rw [if_neg (by omega)]; rfl
    · rw [if_neg (by omega)]; rfl
    rw [hN] at c2
    rw [z64, hW] at c3
    rw [if_pos (by omega)] at hq
    have hw3 : (b.toInt % 10).toNat < 3 := by omega
    have hWn : wb.toInt = ((b.toInt % 10).toNat : Nat) := by omega
    have hNn : nb.toInt = ((b.toInt / 10).toNat : Nat) := by omega
    have hn20 : (b.toInt / 10).toNat ≤ 20 := by omega
    generalize (b.toInt % 10).toNat = way at *
    generalize (b.toInt / 10).toNat = N at *
    have hvb := fun i => nV_b (z := a) hF hz (by omega) hgn hw3 i
    have hwb : ∀ i, 0 ≤ nW F p I way gn a i ∧ nW F p I way gn a i ≤ 7 := fun i => by
      unfold nW
      by_cases q : nV F p I way gn a i = gn
      · rw [if_pos q]; omega
      · rw [if_neg q]; omega
    have hs1 := nsum_b (f := nV F p I way gn a) (fun i => by have := hvb i; omega)
    have hs2 := nsum_b hwb
    have fin : ∀ (r : Int32) J, r.toInt = (if c.toInt = 0 then nsum (nV F p I way gn a) N else nsum (nW F p I way gn a) N) → ag scM (21 :: tcM) I1 J → ∃ r', (some (Value.int r) : Option Value) = some (.int r') ∧ Q r' (u2 J 71 21 0) L := fun r J hr haJ => by
      refine ri (hq _ _ hr ⟨fun q h1 h2 => by rw [u2_ne q h1]; exact haJ.1 q h1 h2, fun i hi => ?_⟩)
      by_cases q : i = 21
      · subst q
        rw [u2e, ha.m 21]; exact hM.1.symm
      · rw [u2i q]
        exact haJ.2 i (by simp only [List.mem_cons]; exact fun z => z.elim q hi)
    have key : ∀ (m i : Nat) J (x6 x7 : Int32), i + m = N → ag scM (21 :: tcM) I1 J → x6.toInt = nsum (nV F p I way gn a) i → x7.toInt = nsum (nW F p I way gn a) i → wX12_drawn_60 G l (d + 108) (fun v I' L' => ∃ r, v = some (.int r) ∧ Q r I' L') (m + 1) b c wb (nz a i) x6 x7 (Int32.ofNat i) J L := by
      intro m
      induction m with
      | zero =>
        intro i J x6 x7 hi haJ h6 h7
        have : i = N := by omega
        subst this
        unfold wX12_drawn_60
        rw [hnb, if_pos (by rw [zle, hNn, zo (by omega)]; omega)]
        refine ife (fun q => fin _ _ ?_ haJ) (fun q => fin _ _ ?_ haJ)
        · rw [zeq, z0] at q
          rw [if_pos q]; exact h6
        · rw [zeq, z0] at q
          rw [if_neg q]; exact h7
      | succ m ih =>
        intro i J x6 x7 hi haJ h6 h7
        unfold wX12_drawn_60
        rw [hnb, if_neg (by rw [zle, hNn, zo (by omega)]; omega)]
        -- the goers
        have run : ∀ (q j : Nat) M (S : zT) (n : Int32), j + q = gn → ag scM (21 :: tcM) I1 M → Im M p (tst p way (dB p way (nz a i))) S.2.1 S.2.2 → n.toInt = S.1 → zTok (I 25 2).toInt j S → (zL F p (tst p way (dB p way (nz a i))) way ((List.range' j q).map (fun i => i)) S).1 = nV F p I way gn a i → wX12_drawn_162 G l (d + 108) (fun z0 z1 z2 z3 z4 z5 z6 I L => wX12_drawn_60 G l (d + 108) (fun v I' L' => ∃ r, v = some (.int r) ∧ Q r I' L') (m + 1) z0 z1 z2 z3 z4 z5 z6 I L) (fun v I' L' => ∃ r, v = some (.int r) ∧ Q r I' L') (q + 1) b c wb (nz a (i + 1)) x6 x7 (Int32.ofNat i) n (Int32.ofNat j) M L := by
          intro q
          induction q with
          | zero =>
            intro j M S n hj haM hIM hn hS hr
            have hFM := hF.ag (ag.th (S := scC ++ scM) (T := 21 :: tcM) ha haM) rfl
            have hr' : S.1 = nV F p I way gn a i := hr
            rw [hr'] at hn
            have hv := hvb i
            have hw' := hwb i
            have hz1 := hs1 i
            have hz2 := hs2 i
            have e7 : (x6 + n).toInt = nsum (nV F p I way gn a) (i + 1) := by
              rw [zadd (by rw [h6, hn]; omega) (by rw [h6, hn]; omega), h6, hn]; rfl
            have hws : nsum (nW F p I way gn a) (i + 1) = nsum (nW F p I way gn a) i + nW F p I way gn a i := rfl
            unfold wX12_drawn_162
            rw [if_pos (by rw [zle, hFM.2.2.1, zo (by omega)]; omega), zsucc]
            refine ife (fun q => ih (i + 1) M _ _ (by omega) haM e7 ?_) (fun q => ih (i + 1) M _ _ (by omega) haM e7 ?_)
            · rw [zeq, hn, hFM.2.2.1, hgn] at q
              have : nW F p I way gn a i = 1 := if_pos q
              rw [zadd (by rw [h7, z1]; omega) (by rw [h7, z1]; omega), h7, z1, hws, this]
            · rw [zeq, hn, hFM.2.2.1, hgn] at q
              have : nW F p I way gn a i = 0 := if_neg q
              rw [Int32.add_zero, h7, hws, this]; omega
          | succ q ihq =>
            intro j M S n hj haM hIM hn hS hr
            have hFM := hF.ag (ag.th (S := scC ++ scM) (T := 21 :: tcM) ha haM) rfl
            have hS1 := hS.1
            unfold wX12_drawn_162
            rw [if_neg (by rw [zle, hFM.2.2.1, zo (by omega)]; omega), zsucc]
            refine tX12_crosses hFM hIM ⟨hS.2.1, hS.2.2.1, by have := hS.2.2.2; omega⟩ (tst_ok hF) (zo (k := j) (by omega)) (by omega) hWn hw3 (fun M2 ha2 hM2 _ => ?_)
            have haM2 : ag scM (21 :: tcM) I1 M2 := haM.th ha2
            have e : List.range' j (q + 1) = j :: List.range' (j + 1) q := rfl
            rw [e, List.map_cons] at hr
            have hok := zL_ok (st := tst p way (dB p way (nz a i))) hF (B := (I 25 2).toInt) ⟨hz.2.1, by omega⟩ hw3 [j] j S (by simp; omega) (fun n hn => by simp at hn; omega) hS
            rw [show j + [j].length = j + 1 from rfl] at hok
            refine ifz (fun q2 => ihq (j + 1) M2 (zL F p (tst p way (dB p way (nz a i))) way [j] S) _ (by omega) haM2 hM2 ?_ hok hr) (fun q2 => ihq (j + 1) M2 (zL F p (tst p way (dB p way (nz a i))) way [j] S) _ (by omega) haM2 hM2 ?_ hok hr)
            · have : (zL F p (tst p way (dB p way (nz a i))) way [j] S).1 = S.1 + (if (zcross F p (tst p way (dB p way (nz a i))) way j 0 false S.2.1 S.2.2).1 = -1 then 1 else 0) := rfl
              rw [this, if_neg q2, Int32.add_zero, hn]; omega
            · have : (zL F p (tst p way (dB p way (nz a i))) way [j] S).1 = S.1 + (if (zcross F p (tst p way (dB p way (nz a i))) way j 0 false S.2.1 S.2.2).1 = -1 then 1 else 0) := rfl
              rw [this, if_pos q2, zadd (by rw [z1, hn]; omega) (by rw [z1, hn]; omega), z1, hn]
        -- the draws
        have drw : ∀ (q j : Nat) M, j + q = 8 → ag scM (21 :: tcM) I1 M → M 71 22 = wb → (∀ t, t < 8 → bt (M 71 21) t = (decide (t < j) && dB p way (nz a i) t)) → wX12_drawn_83 G l (d + 108) (fun z0 z1 z2 z3 z4 z5 z6 I L => wX12_drawn_60 G l (d + 108) (fun v I' L' => ∃ r, v = some (.int r) ∧ Q r I' L') (m + 1) z0 z1 z2 z3 z4 z5 z6 I L) (fun v I' L' => ∃ r, v = some (.int r) ∧ Q r I' L') (q + 1) b c wb (dzn (nz a i) j) x6 x7 (Int32.ofNat i) (Int32.ofNat j) M L := by
          intro q
          induction q with
          | zero =>
            intro j M hj haM h22 hbt
            have : j = 8 := by omega
            subst this
            have hall : ag (scC ++ scM) (21 :: tcM) I M := ha.th haM
            unfold wX12_drawn_83
            rw [if_pos (by decide)]
            refine tX12_begins1 ?_
            have hab := ag_begin (J := M)
            have haM2 : ag scM (21 :: tcM) I1 (u2 (cpk M 80 76 24) 71 20 (M 71 8)) := haM.th hab
            have hnz : dzn (nz a i) 8 = nz a (i + 1) := rfl
            rw [hnz]
            refine ⟨_, run gn 0 _ (0, dwk I, (I 25 2).toInt) 0 (by omega) haM2 ⟨fun s hs => ?_, fun s hs => ?_, ?_⟩ rfl ⟨by simp, hz.1, hz.2.1, by simp⟩ rfl⟩
            · have f23 : (u2 (cpk M 80 76 24) 71 20 (M 71 8)) 71 23 = -1 := by rw [u2i (by decide), cpk_ne (by decide), hall.m 23]; exact hM.2
              have f22 : (u2 (cpk M 80 76 24) 71 20 (M 71 8)) 71 22 = wb := by rw [u2i (by decide), cpk_ne (by decide)]; exact h22
              have f21 : (u2 (cpk M 80 76 24) 71 20 (M 71 8)) 71 21 = M 71 21 := by rw [u2i (by decide), cpk_ne (by decide)]
              rw [f23, f22, f21]
              refine rst_t hWn (fun t ht => ?_)
              rw [hbt t ht, decide_eq_true ht, Bool.true_and]
            · rw [u2n (by decide), cpk_eq hs, hall.c 76, (hI.1 s hs).1]; rfl
            · rw [u2e, hall.m 8, hI.2.1]
          | succ q ihq =>
            intro j M hj haM h22 hbt
            have hall : ag (scC ++ scM) (21 :: tcM) I M := ha.th haM
            have hFM := hF.ag hall rfl
            have e : dzn (nz a i) j * 1103515245 + 12345 = dzn (nz a i) (j + 1) := rfl
            have w8 : (8 * wb).toInt = 8 * way := by rw [zmul (by rw [hWn, zl_8]; omega) (by rw [hWn, zl_8]; omega), hWn, zl_8]
            have w48 : (48 + 8 * wb).toInt = 48 + 8 * way := by rw [zadd (by rw [w8, zl_48]; omega) (by rw [w8, zl_48]; omega), w8, zl_48]
            have wj : (48 + 8 * wb + Int32.ofNat j).toInt = 48 + 8 * way + j := by rw [zadd (by rw [w48, zo (by omega)]; omega) (by rw [w48, zo (by omega)]; omega), w48, zo (by omega)]
            have wn : (48 + 8 * wb + Int32.ofNat j).toNatClampNeg = 24 * 2 + (8 * way + j) := by rw [znat, wj]; omega
            have hp2 := (hFM.sq (s := 8 * way + j) (by omega) (w := 2) (by decide)).2.1
            unfold wX12_drawn_83
            rw [if_neg (by rw [zle, zl_8, zo (by omega)]; omega)]
            refine ⟨by rw [zin, wj]; omega, ?_⟩
            rw [wn, e, zsucc]
            refine ife (fun q2 => ?_) (fun q2 => ?_)
            · rw [zle, hp2] at q2
              have hB : dB p way (nz a i) j = false := by unfold dB; rw [decide_eq_false_iff_not]; exact Int.not_lt.mpr q2
              refine ihq (j + 1) _ (by omega) (agm haM (by decide)) (by rw [u2i (by decide)]; exact h22) (fun t ht => ?_)
              rw [u2e, bt_or, bt_0, Bool.or_false, hbt t ht]
              by_cases e2 : t = j
              · rw [e2, hB, Bool.and_false, Bool.and_false]
              · have : decide (t < j + 1) = decide (t < j) := by
                  by_cases q3 : t < j
                  · rw [decide_eq_true q3, decide_eq_true (by omega)]
                  · rw [decide_eq_false q3, decide_eq_false (by omega)]
                rw [this]
            · rw [zle, hp2] at q2
              have hB : dB p way (nz a i) j = true := by unfold dB; rw [decide_eq_true_iff]; exact Int.not_le.mp q2
              refine ihq (j + 1) _ (by omega) (agm haM (by decide)) (by rw [u2i (by decide)]; exact h22) (fun t ht => ?_)
              rw [u2e, bt_or, bt_shl (by omega) ht, hbt t ht]
              by_cases e2 : t = j
              · rw [e2, hB]; simp
              · have : decide (t < j + 1) = decide (t < j) := by
                  by_cases q3 : t < j
                  · rw [decide_eq_true q3, decide_eq_true (by omega)]
                  · rw [decide_eq_false q3, decide_eq_false (by omega)]
                rw [this, decide_eq_false e2, Bool.or_false]
        refine ⟨_, drw 8 0 _ (by omega) (agm (agm haJ (by decide)) (by decide)) u2e (fun t ht => ?_)⟩
        have : (u2 (u2 J 71 21 0) 71 22 wb) 71 21 = 0 := by rw [u2i (by decide), u2e]
        rw [this, bt_0]
        simp
    exact ⟨_, key N 0 I1 0 0 (by omega) ag.rf rfl rfl⟩
end DR

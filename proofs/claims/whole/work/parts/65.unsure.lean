/-! unsure, bore, safe -/
theorem lcmp_le {x y : Int64} : lg_cmp x y ≤ 0 ↔ x.toInt ≤ y.toInt := by
  constructor
  · intro q
    by_cases z : y < x
    · have z2 := lcmp_gt.mpr z
      rw [zlt, z0] at z2
      rw [zle, z0] at q
      omega
    · rw [Int64.lt_iff_toInt_lt] at z
      omega
  · intro q
    by_cases z : (0 : Int32) < lg_cmp x y
    · have z2 := lcmp_gt.mp z
      rw [Int64.lt_iff_toInt_lt] at z2
      omega
    · rw [zlt, z0] at z
      rw [zle, z0]
      omega
theorem scr2J {G : jG} {l : Launch} {k : Nat} {I : jS} {L : jL} {LR : jLR} {M1 M2 : jM} {D : Nat} {a1 a2 : List Value} {K : Int64 → Int64 → jS → jL → Prop} (h : Inv LR k I L) (v : Int)
    (h1 : ∀ Q : Int64 → jS → jL → Prop, (∀ (r : Int64) I1, r.toInt = v → ag scC [] I I1 → Q r I1 L) → cJ G l M1 D a1 I L Q)
    (h2 : ∀ I1, ag scC [] I I1 → ∀ Q : Int64 → jS → jL → Prop, (∀ (r : Int64) I2, r.toInt = v → ag scM tcM I1 I2 → Q r I2 L) → cJ G l M2 D a2 I1 L Q)
    (hk : ∀ r I' L', Inv LR (k + 1) I' L' → K r r I' L') : cJ G l M1 D a1 I L (fun r I1 L1 => cJ G l M2 D a2 I1 L1 (fun r' I2 L2 => K r r' I2 L2)) := by
  refine twoJ (P := fun r I1 L1 => L1 = L ∧ r.toInt = v ∧ ag scC [] I I1) (fun Q hq => h1 Q (fun r I1 a b => hq _ _ _ ⟨rfl, a, b⟩)) (fun r I1 L1 hp Q hq => ?_) hk
  obtain ⟨rfl, hr, ha⟩ := hp
  refine h2 I1 ha Q (fun r' I2 hr' ha' => ?_)
  have : r' = r := by rw [← Int64.toInt_inj, hr, hr']
  rw [this]
  exact hq _ _ (h.scr (ag.th (S := scC ++ scM) (T := tcM) ha ha') rfl)
section UN
variable {G : jG} {l : Launch} {d k : Nat} {F : Option lF} {g : Int} {p : Nat → Nat → Int} {I : jS} {L : jL} {st wk : Nat → Int} {mn : Int} {Q : Int32 → jS → jL → Prop} {QJ : Int64 → jS → jL → Prop} {Qv : jS → jL → Prop} {K : Int32 → Int32 → jS → jL → Prop} {KJ : Int64 → Int64 → jS → jL → Prop}
theorem Fr.p2 (hF : Fr G l F g p I) {way : Nat} (hw : way < 3) : ∀ k, k < 8 → 0 ≤ p 2 (8 * way + k) ∧ p 2 (8 * way + k) ≤ 12 := fun k hk => pok_2 (hF.sq (s := 8 * way + k) (by omega) (w := 2) (by decide)).2.2
theorem tX1_likely {way : Nat} {ls : List Nat} {J : jS} (hp : ∀ k, k < 8 → 0 ≤ p 2 (8 * way + k) ∧ p 2 (8 * way + k) ≤ 12) (hv : ∀ k, k < 8 → (J 55 k).toInt = aZ F p I way ls k ∧ (J 56 k).toInt = aB F p I way ls k)
    (h : ∀ r : Int64, r.toInt = LK F p I way ls (-1) → QJ r J L) : cJ G l mX1_likely (d + 2) [.ref 51] J L QJ := by
  refine wX1_likely_ok ?_
  unfold wX1_likely
  exact tX1_likelyBored hp hv (fun r hr => rl (h r hr))
/-- a row's first four -/
def ls4 (I : jS) (L : jL) (e : Nat) : List Nat := (List.range' 0 (rdN (shf8 L e) (I 1 1).toInt (min 4 (I 59 e).toInt.toNat) 0)).map (fun i => (shf8 L e i).toNat)
/-- the class looks at a row -/
theorem cls4 {x y : Int32} {way e : Nat} (hF : Fr G l F (I 1 1).toInt p I) (hB : ByR I L e) (hz : zok (dwk I) (I 25 2).toInt) (hmn : (I 25 2).toInt ≤ 100000) (hx : x.toInt = e) (hy : y.toInt = way) (hw : way < 3)
    (h : ∀ J', ag scC [] I J' → (∀ k, k < 8 → (J' 55 k).toInt = aZ F p I way (ls4 I L e) k ∧ (J' 56 k).toInt = aB F p I way (ls4 I L e) k) → Qv J' L) :
    cV G l mX10_readOrder (d + 8) [.ref 31, .ref 57, .int x, .int 4] I L (fun I4 L4 => cV G l mX1_look (d + 8) [.ref 51, .ref 25, .int y, .ref 31] I4 L4 Qv) := by
  have hg := hF.1
  refine tX10_readOrder (mo := 4) hF hB hx (by decide) (by decide) (fun I4 ha4 hO4 => ?_)
  have hord := ord_g (g := (I 1 1).toInt) (e := 0) (f := shf8 L e) (m := min 4 (I 59 e).toInt.toNat) hg.1
  exact tX1_look hF (ha4.up rfl rfl) hO4 hord hz hmn hy hw (fun J' a _ c => h J' a c)
/-- the reference looks at a row -/
theorem mls4 {x y : Int32} {way e : Nat} {I1 : jS} (h0 : Inv (LRl G l) k I L) (hF : Fr G l F (I 1 1).toInt p I) (ha : ag scC [] I I1) (hB : ByR I L e) (hz : zok (dwk I) (I 25 2).toInt) (hmn : (I 25 2).toInt ≤ 100000) (hx : x.toInt = e) (hy : y.toInt = way) (hw : way < 3)
    (h : ∀ J', ag scM tcM I1 J' → (∀ T, T < 256 → J' 85 T = b01 (gO F p I way (ls4 I L e) T = true)) → Qv J' L) :
    cV G l mX12_asksGoes (d + 104) [.ref 71, .int x] I1 L (fun I4 L4 => cV G l mX12_asksThin (d + 104) [.ref 71, .int y] I4 L4 Qv) := by
  have hg := hF.1
  refine tX12_asksGoes (hF.ag ha rfl) (hB.ag ha rfl) hx (fun J4 ha4 h34 h84 => ?_)
  rw [ha.c 59] at h34 h84
  have hle := rdN_le (f := shf8 L e) (g := (I 1 1).toInt) (min 4 (I 59 e).toInt.toNat) 0
  have hrd := rdN_g (f := shf8 L e) (g := (I 1 1).toInt) (min 4 (I 59 e).toInt.toNat) 0
  refine tX12_asksThin (o := fun i => (shf8 L e i).toNat) h0 hF ha (ha4.up rfl rfl) hz hmn hy hw (by omega) h34 (fun i hi => ?_) (fun i hi => ?_) h
  · have := hrd i (by omega) hi
    rw [h84 i hi]
    omega
  · have := hrd i (by omega) hi
    omega
theorem T_unsure {a b c : Int32} (h : Inv (LRl G l) k I L) (hk5 : k ≤ 512) (hk : ∀ r I' L', Inv (LRl G l) (k + 1) I' L' → KJ r r I' L') :
    cJ G l mX11_unsure (d + 109) [.ref 0, .int a, .int b, .int c] I L (fun r I1 L1 => cJ G l mX12_unsure (d + 109) [.ref 71, .int a, .int b, .int c] I1 L1 (fun r' I2 L2 => KJ r r' I2 L2)) := by
  obtain ⟨F, p, hF, hp⟩ := h.fr
  obtain ⟨hP, hC, hI, hT, hR, hD, hG, hA, hS, hM⟩ := id h
  have hz := dz h hk5
  have hmn := dmn h hk5
  have hneg : ∀ (hx : 0 ≤ a.toInt ∧ a.toInt < 6), I 58 a.toInt.toNat = 0 ↔ (I 89 a.toInt.toNat).toInt = 50 := fun hx => (InvS_neg hS hA.2.1.2 (show a.toInt.toNat < 6 by omega)).2.2.2
  refine scr2J h (if (0 ≤ a.toInt ∧ a.toInt < 6) ∧ (0 ≤ b.toInt ∧ b.toInt < 3) ∧ (0 ≤ c.toInt ∧ c.toInt ≤ 1) ∧ (I 89 a.toInt.toNat).toInt = 50 then GZ (LK F p I b.toInt.toNat (ls4 I L a.toInt.toNat) (-1)) c.toInt else -9223372036854775808) (fun Q hq => ?_) (fun I1 ha Q hq => ?_) hk
  · refine wX11_unsure_ok ?_
    unfold wX11_unsure
    refine tX11_isShelf (ifz (fun c1 => rl (hq _ _ (by rw [if_neg (fun q => c1 q.1)]; rfl) ag.rf)) (fun c1 => tX11_isWay (ifz (fun c2 => rl (hq _ _ (by rw [if_neg (fun q => c2 q.2.1)]; rfl) ag.rf)) (fun c2 => ife (fun c3 => rl (hq _ _ ?_ ag.rf)) (fun c3 => ife (fun c4 => tX9_isBytes (ifz (fun c5 => rl (hq _ _ ?_ ag.rf)) (fun c5 => ?_))) (fun c4 => rl (hq _ _ ?_ ag.rf)))))))
    · rw [zlt, z0] at c3
      rw [if_neg (fun q => by have := q.2.2.1; omega)]; rfl
    · rw [if_neg (fun q => c5 ⟨c1, (hneg c1).mpr q.2.2.2⟩)]; rfl
    · rw [zlt, z0] at c3
      rw [zle, z1] at c4
      have h50 := (hneg c1).mp c5.2
      rw [if_pos ⟨c1, c2, by omega, h50⟩] at hq
      have hB := hS.byr hA.2.1.2 (by omega) h50
      have hw3 : b.toInt.toNat < 3 := by omega
      refine cls4 hF hB hz (by omega) (by omega) (way := b.toInt.toNat) (by omega) hw3 (fun J' haJ hv => ?_)
      exact tX1_likely (hF.p2 hw3) hv (fun r hr => tX1_part hr (LK_b (hF.p2 hw3)) (fun r2 hr2 => rl (hq _ _ hr2 haJ)))
    · rw [zle, z1] at c4
      rw [if_neg (fun q => by have := q.2.2.1; omega)]; rfl
  · have e89 : I1 89 = I 89 := ha.c 89
    refine wX12_unsure_ok ?_
    unfold wX12_unsure
    by_cases c1 : 0 ≤ a.toInt ∧ a.toInt < 6
    case neg =>
      refine tX12_bytesNo c1 ?_
      rw [if_neg (by decide)]
      exact rl (hq _ _ (by rw [if_neg (fun q => c1 q.1)]; rfl) ag.rf)
    refine tX12_bytesIs c1 ?_
    rw [e89]
    by_cases h50 : (I 89 a.toInt.toNat).toInt = 50
    case neg =>
      have hn := bsV_n (x := 1) h50
      rw [if_neg (fun z => by rw [z] at hn; exact absurd hn.2.1 (by decide))]
      exact rl (hq _ _ (by rw [if_neg (fun q => h50 q.2.2.2)]; rfl) ag.rf)
    rw [bsV_50 h50, if_pos rfl]
    refine tX12_isWay (ifz (fun c2 => rl (hq _ _ (by rw [z64] at c2; rw [if_neg (fun q => c2 q.2.1)]; rfl) ag.rf)) (fun c2 => tX12_win (a := 0) (b := 1) (by decide) (by decide) (ifz (fun c3 => rl (hq _ _ (by rw [if_neg (fun q => c3 q.2.2.1)]; rfl) ag.rf)) (fun c3 => ?_))))
    rw [z64] at c2
    rw [if_pos ⟨c1, c2, c3, h50⟩] at hq
    have hB := hS.byr hA.2.1.2 (by omega) h50
    have hw3 : b.toInt.toNat < 3 := by omega
    refine mls4 (d := d + 4) h hF ha hB hz (by omega) (by omega) (way := b.toInt.toNat) (by omega) hw3 (fun J' haJ h85 => ?_)
    have hFJ := hF.ag (ag.th (S := scC ++ scM) (T := tcM) ha haJ) rfl
    exact tX12_likelyWays (z := -1) hFJ (by omega) hw3 h85 (fun r hr => tX12_partOf hr (LK_b (hF.p2 hw3)) (by omega) (fun r2 hr2 => rl (hq _ _ hr2 haJ)))
theorem T_bore {a b c : Int32} (h : Inv (LRl G l) k I L) (hk5 : k ≤ 512) (hk : ∀ r I' L', Inv (LRl G l) (k + 1) I' L' → KJ r r I' L') :
    cJ G l mX11_bore (d + 109) [.ref 0, .int a, .int b, .int c] I L (fun r I1 L1 => cJ G l mX12_bore (d + 109) [.ref 71, .int a, .int b, .int c] I1 L1 (fun r' I2 L2 => KJ r r' I2 L2)) := by
  obtain ⟨F, p, hF, hp⟩ := h.fr
  obtain ⟨hP, hC, hI, hT, hR, hD, hG, hA, hS, hM⟩ := id h
  have hz := dz h hk5
  have hmn := dmn h hk5
  have hneg : ∀ (hx : 0 ≤ a.toInt ∧ a.toInt < 6), I 58 a.toInt.toNat = 0 ↔ (I 89 a.toInt.toNat).toInt = 50 := fun hx => (InvS_neg hS hA.2.1.2 (show a.toInt.toNat < 6 by omega)).2.2.2
  have hbb := bst8_b (f := fun k => LK F p I b.toInt.toNat (ls4 I L a.toInt.toNat) k) 7 1 0 (by omega)
  refine scr2J h (if (0 ≤ a.toInt ∧ a.toInt < 6) ∧ (0 ≤ b.toInt ∧ b.toInt < 3) ∧ (0 ≤ c.toInt ∧ c.toInt ≤ 2) ∧ (I 89 a.toInt.toNat).toInt = 50 then (if c.toInt = 2 then 8 * b.toInt + (bst8 (fun k => LK F p I b.toInt.toNat (ls4 I L a.toInt.toNat) k) 7 1 0 : Nat) else GZ (LK F p I b.toInt.toNat (ls4 I L a.toInt.toNat) (bst8 (fun k => LK F p I b.toInt.toNat (ls4 I L a.toInt.toNat) k) 7 1 0 : Nat)) c.toInt) else -9223372036854775808) (fun Q hq => ?_) (fun I1 ha Q hq => ?_) hk
  · refine wX11_bore_ok ?_
    unfold wX11_bore
    refine tX11_isShelf (ifz (fun c1 => rl (hq _ _ (by rw [if_neg (fun q => c1 q.1)]; rfl) ag.rf)) (fun c1 => tX11_isWay (ifz (fun c2 => rl (hq _ _ (by rw [if_neg (fun q => c2 q.2.1)]; rfl) ag.rf)) (fun c2 => ife (fun c3 => rl (hq _ _ ?_ ag.rf)) (fun c3 => ife (fun c4 => tX9_isBytes (ifz (fun c5 => rl (hq _ _ ?_ ag.rf)) (fun c5 => ?_))) (fun c4 => rl (hq _ _ ?_ ag.rf)))))))
    · rw [zlt, z0] at c3
      rw [if_neg (fun q => by have := q.2.2.1; omega)]; rfl
    · rw [if_neg (fun q => c5 ⟨c1, (hneg c1).mpr q.2.2.2⟩)]; rfl
    · rw [zlt, z0] at c3
      rw [zle, zl_2] at c4
      have h50 := (hneg c1).mp c5.2
      rw [if_pos ⟨c1, c2, by omega, h50⟩] at hq
      have hB := hS.byr hA.2.1.2 (by omega) h50
      have hw3 : b.toInt.toNat < 3 := by omega
      refine cls4 hF hB hz (by omega) (by omega) (way := b.toInt.toNat) (by omega) hw3 (fun J' haJ hv => ?_)
      refine tX1_bestBored (hF.p2 hw3) hv (fun r6 h6 => ife (fun q => rl (hq _ _ ?_ haJ)) (fun q => ?_))
      · rw [zeq, zl_2] at q
        have e1 : (b * 8).toInt = b.toInt * 8 := by rw [zmul (by rw [zl_8]; omega) (by rw [zl_8]; omega), zl_8]
        rw [if_pos q, w32, zadd (by rw [e1, h6]; omega) (by rw [e1, h6]; omega), e1, h6]
        omega
      · rw [zeq, zl_2] at q
        rw [if_neg q] at hq
        refine tX1_likelyBored (hF.p2 hw3) hv (fun r hr => ?_)
        rw [h6] at hr
        exact tX1_part hr (LK_b (hF.p2 hw3)) (fun r2 hr2 => rl (hq _ _ hr2 haJ))
    · rw [zle, zl_2] at c4
      rw [if_neg (fun q => by have := q.2.2.1; omega)]; rfl
  · have e89 : I1 89 = I 89 := ha.c 89
    refine wX12_bore_ok ?_
    unfold wX12_bore
    by_cases c1 : 0 ≤ a.toInt ∧ a.toInt < 6
    case neg =>
      refine tX12_bytesNo c1 ?_
      rw [if_neg (by decide)]
      exact rl (hq _ _ (by rw [if_neg (fun q => c1 q.1)]; rfl) ag.rf)
    refine tX12_bytesIs c1 ?_
    rw [e89]
    by_cases h50 : (I 89 a.toInt.toNat).toInt = 50
    case neg =>
      have hn := bsV_n (x := 1) h50
      rw [if_neg (fun z => by rw [z] at hn; exact absurd hn.2.1 (by decide))]
      exact rl (hq _ _ (by rw [if_neg (fun q => h50 q.2.2.2)]; rfl) ag.rf)
    rw [bsV_50 h50, if_pos rfl]
    refine tX12_isWay (ifz (fun c2 => rl (hq _ _ (by rw [z64] at c2; rw [if_neg (fun q => c2 q.2.1)]; rfl) ag.rf)) (fun c2 => tX12_win (a := 0) (b := 2) (by decide) (by decide) (ifz (fun c3 => rl (hq _ _ (by rw [if_neg (fun q => c3 q.2.2.1)]; rfl) ag.rf)) (fun c3 => ?_))))
    rw [z64] at c2
    rw [if_pos ⟨c1, c2, c3, h50⟩] at hq
    have hB := hS.byr hA.2.1.2 (by omega) h50
    have hw3 : b.toInt.toNat < 3 := by omega
    refine mls4 (d := d + 4) h hF ha hB hz (by omega) (by omega) (way := b.toInt.toNat) (by omega) hw3 (fun J' haJ h85 => ?_)
    have hFJ := hF.ag (ag.th (S := scC ++ scM) (T := tcM) ha haJ) rfl
    have hLb : ∀ z, 0 ≤ LK F p I b.toInt.toNat (ls4 I L a.toInt.toNat) z ∧ LK F p I b.toInt.toNat (ls4 I L a.toInt.toNat) z ≤ 429981696 := fun z => LK_b (hF.p2 hw3)
    generalize hR : bst8 (fun k => LK F p I b.toInt.toNat (ls4 I L a.toInt.toNat) k) 7 1 0 = R at *
    have key : ∀ (m r bz : Nat) (y : Int64), r + m = 8 → bz < r → y.toInt = LK F p I b.toInt.toNat (ls4 I L a.toInt.toNat) bz → bst8 (fun k => LK F p I b.toInt.toNat (ls4 I L a.toInt.toNat) k) m r bz = R → wX12_bore_54 G l (d + 108) (fun v I' L' => ∃ r, v = some (.long r) ∧ Q r I' L') (m + 1) b c (Int32.ofNat bz) y (Int32.ofNat r) J' L := by
      intro m
      induction m with
      | zero =>
        intro r bz y hr hb hy he
        have he' : bz = R := he
        unfold wX12_bore_54
        rw [if_pos (by rw [zle, zl_8, zo (by omega)]; omega)]
        refine ife (fun q => rl (hq _ _ ?_ haJ)) (fun q => ?_)
        · rw [zeq, zl_2] at q
          have e1 : (8 * b).toInt = 8 * b.toInt := by rw [zmul (by rw [zl_8]; omega) (by rw [zl_8]; omega), zl_8]
          rw [if_pos q, w32, zadd (by rw [e1, zo (by omega)]; omega) (by rw [e1, zo (by omega)]; omega), e1, zo (by omega), he']
        · rw [zeq, zl_2] at q
          rw [if_neg q] at hq
          rw [he'] at hy
          exact tX12_partOf hy (hLb _) (by omega) (fun r2 hr2 => rl (hq _ _ hr2 haJ))
      | succ m ih =>
        intro r bz y hr hb hy he
        unfold wX12_bore_54
        rw [if_neg (by rw [zle, zl_8, zo (by omega)]; omega)]
        refine tX12_likelyWays hFJ (by omega) hw3 h85 (fun r2 h2 => ?_)
        rw [zo (by omega)] at h2
        unfold bst8 at he
        unfold wX12_bore_85
        refine ife (fun q => ?_) (fun q => ?_)
        · rw [if_pos q, zsucc]
          rw [lcmp_le, h2, hy] at q
          rw [if_neg (by omega)] at he
          exact ih (r + 1) bz y (by omega) (by omega) hy he
        · rw [if_neg q, zsucc]
          rw [lcmp_le, h2, hy] at q
          rw [if_pos (by omega)] at he
          exact ih (r + 1) r r2 (by omega) (by omega) h2 he
    refine ⟨7 + 1 + 1, ?_⟩
    unfold wX12_bore_54
    rw [if_neg (by decide)]
    refine tX12_likelyWays hFJ (by omega) hw3 h85 (fun r2 h2 => ?_)
    have h2 : r2.toInt = LK F p I b.toInt.toNat (ls4 I L a.toInt.toNat) ((0 : Nat) : Int) := h2
    have hl0 := hLb ((0 : Nat) : Int)
    have q : ¬ lg_cmp r2 (-1) ≤ 0 := fun z => by
      rw [lcmp_le, h2, zm_m1] at z
      omega
    unfold wX12_bore_85
    rw [if_neg q, if_neg q]
    exact key 7 1 0 r2 (by omega) (by omega) h2 hR
theorem T_safe {a : Int32} (h : Inv (LRl G l) k I L) (hk5 : k ≤ 512) (hk : ∀ r I' L', Inv (LRl G l) (k + 1) I' L' → K r r I' L') :
    cI G l mX11_safe (d + 109) [.ref 0, .int a] I L (fun r I1 L1 => cI G l mX12_safe (d + 109) [.ref 71, .int a] I1 L1 (fun r' I2 L2 => K r r' I2 L2)) := by
  obtain ⟨F, p, hF, hp⟩ := h.fr
  obtain ⟨hP, hC, hI, hT, hR, hD, hG, hA, hS, hM⟩ := id h
  have hz := dz h hk5
  have hmn := dmn h hk5
  have hg := hF.1
  refine scr2 h (if 0 ≤ a.toInt ∧ a.toInt < (I 1 1).toInt then bstR (fun w => LK F p I w ((List.range' 0 1).map (fun _ => a.toInt.toNat)) (-1)) 3 0 0 (-1) else -1) (fun Q hq => ?_) (fun I1 ha Q hq => ?_) hk
  · refine wX11_safe_ok ?_
    unfold wX11_safe
    refine tX11_isGoer (ifz (fun c1 => ri (hq _ _ (by rw [if_neg c1]; rfl) ag.rf)) (fun c1 => ?_))
    rw [if_pos c1] at hq
    refine wX10_alone_ok (Q := fun v I' L' => v = none ∧ ∃ e27 : Nat, wX11_safe_27 G l (d + 108) (fun v I' L' => ∃ r, v = some (.int r) ∧ Q r I' L') e27 0 (-1) 0 I' L') ?_
    unfold wX10_alone
    have hu : ag [31, 35] [] I (u2 I 31 5 0) := agu ag.rf (by decide) (by decide)
    refine tX10_add (o := fun _ => a.toInt.toNat) (n := 0) ⟨by rw [u2e]; rfl, by omega, fun i hi => by omega⟩ (by omega) (by omega) (fun J1 ha1 hO1 => ⟨rfl, ?_⟩)
    have hb1 : ag scC [] I J1 := ag.th hu ha1
    generalize hRR : bstR (fun w => LK F p I w ((List.range' 0 1).map (fun _ => a.toInt.toNat)) (-1)) 3 0 0 (-1) = R at hq
    have key : ∀ (m w : Nat) J (bz vz : Int) (x2 : Int32) (y3 : Int64), w + m = 3 → ag scC [] I J → Od J (fun _ => a.toInt.toNat) 1 → x2.toInt = bz → y3.toInt = vz → bstR (fun w => LK F p I w ((List.range' 0 1).map (fun _ => a.toInt.toNat)) (-1)) m w bz vz = R → wX11_safe_27 G l (d + 108) (fun v I' L' => ∃ r, v = some (.int r) ∧ Q r I' L') (m + 1) x2 y3 (Int32.ofNat w) J L := by
      intro m
      induction m with
      | zero =>
        intro w J bz vz x2 y3 hw haJ hOJ h2 h3 he
        unfold wX11_safe_27
        rw [if_pos (by rw [zle, zl_3, zo (by omega)]; omega)]
        have he' : bz = R := he
        exact ri (hq _ _ (by rw [h2, he']) haJ)
      | succ m ih =>
        intro w J bz vz x2 y3 hw haJ hOJ h2 h3 he
        have hw3 : w < 3 := by omega
        unfold wX11_safe_27
        rw [if_neg (by rw [zle, zl_3, zo (by omega)]; omega)]
        refine tX1_look (d := d + 100) hF haJ hOJ (fun i hi => by omega) hz (by omega) (zo (k := w) (by omega)) hw3 (fun J2 ha2 hO2 hv => ?_)
        refine tX1_likely (d := d + 106) (hF.p2 hw3) hv (fun r hr => ?_)
        unfold bstR at he
        rw [zsucc]
        refine ife (fun q => ?_) (fun q => ?_)
        · rw [lcmp_le, hr, h3] at q
          rw [if_neg (by omega)] at he
          exact ih (w + 1) J2 bz vz x2 y3 (by omega) ha2 hO2 h2 h3 he
        · rw [lcmp_le, hr, h3] at q
          rw [if_pos (by omega)] at he
          exact ih (w + 1) J2 w _ _ r (by omega) ha2 hO2 (zo (by omega)) hr he
    exact ⟨_, key 3 0 J1 0 (-1) 0 (-1) (by omega) hb1 hO1 rfl rfl hRR⟩
  · have e6 : (I1 71 6).toInt = (I 1 1).toInt := by rw [ha.m 6, hP.1]
    refine wX12_safe_ok ?_
    unfold wX12_safe
    refine tX12_isGoer (by omega) (ifz (fun c1 => ri (hq _ _ (by rw [z64, e6] at c1; rw [if_neg c1]; rfl) ag.rf)) (fun c1 => ?_))
    rw [z64, e6] at c1
    rw [if_pos c1] at hq
    generalize hRR : bstR (fun w => LK F p I w ((List.range' 0 1).map (fun _ => a.toInt.toNat)) (-1)) 3 0 0 (-1) = R at hq
    have key : ∀ (m w : Nat) J (bz vz : Int) (x2 : Int32) (y3 : Int64), w + m = 3 → ag scM tcM I1 J → x2.toInt = bz → y3.toInt = vz → bstR (fun w => LK F p I w ((List.range' 0 1).map (fun _ => a.toInt.toNat)) (-1)) m w bz vz = R → wX12_safe_20 G l (d + 108) (fun v I' L' => ∃ r, v = some (.int r) ∧ Q r I' L') (m + 1) a x2 y3 (Int32.ofNat w) J L := by
      intro m
      induction m with
      | zero =>
        intro w J bz vz x2 y3 hw haJ h2 h3 he
        unfold wX12_safe_20
        rw [if_pos (by rw [zle, zl_3, zo (by omega)]; omega)]
        have he' : bz = R := he
        exact ri (hq _ _ (by rw [h2, he']) haJ)
      | succ m ih =>
        intro w J bz vz x2 y3 hw haJ h2 h3 he
        have hw3 : w < 3 := by omega
        unfold wX12_safe_20
        rw [if_neg (by rw [zle, zl_3, zo (by omega)]; omega)]
        refine tX12_asksThin (d := d + 4) (n := 1) (o := fun _ => a.toInt.toNat) h hF ha (agm (agu haJ (by decide) (by decide)) (by decide)) hz (by omega) (zo (k := w) (by omega)) hw3 (by omega) (by rw [u2e]; rfl) (fun i hi => ?_) (fun i hi => by omega) (fun J2 ha2 h85 => ?_)
        · have : i = 0 := by omega
          subst this
          rw [u2n (by decide), u2e]
          omega
        have hFJ := hF.ag (ag.th (S := scC ++ scM) (T := tcM) ha ha2) rfl
        refine tX12_likelyWays (z := -1) hFJ (zo (k := w) (by omega)) hw3 h85 (fun r hr => ?_)
        have hr : r.toInt = LK F p I w ((List.range' 0 1).map (fun _ => a.toInt.toNat)) (-1) := hr
        unfold bstR at he
        unfold wX12_safe_66
        refine ife (fun q => ?_) (fun q => ?_)
        · rw [if_pos q, zsucc]
          rw [lcmp_le, hr, h3] at q
          rw [if_neg (by omega)] at he
          exact ih (w + 1) J2 bz vz x2 y3 (by omega) ha2 h2 h3 he
        · rw [if_neg q, zsucc]
          rw [lcmp_le, hr, h3] at q
          rw [if_pos (by omega)] at he
          exact ih (w + 1) J2 w _ _ r (by omega) ha2 (zo (by omega)) hr he
    exact ⟨_, key 3 0 I1 0 (-1) 0 (-1) (by omega) ag.rf rfl rfl hRR⟩
end UN

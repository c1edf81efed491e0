/-! soonest -/
section S2
variable {G : jG} {l : Launch} {d k : Nat} {F : Option lF} {g : Int} {p : Nat → Nat → Int} {I : jS} {L : jL} {st wk : Nat → Int} {mn : Int} {Q : Int32 → jS → jL → Prop} {Qv : jS → jL → Prop} {K : Int32 → Int32 → jS → jL → Prop}
/-- what the reference's search has found -/
def KT (gn : Nat) (J : jS) (S : zBS) : Prop := (J 71 31).toInt = S.1 ∧ (0 ≤ S.1 → ∀ i, i < gn → (J 82 i).toInt = S.2.getD i 0)
theorem KT.ag {gn : Nat} {J J' : jS} {S : zBS} {S1 T1 : List Nat} (h : KT gn J S) (ha : ag S1 T1 J J') (h1 : S1.contains 82 = false) (h2 : T1.contains 31 = false) : KT gn J' S := by
  unfold KT
  rw [ha.1 82 (by decide) (by simpa using h1), ha.2 31 (by simpa using h2)]
  exact h
theorem tX12_soonestOn {x3 : Int32} {way gn : Nat} {I1 : jS} (h0 : Inv (LRl G l) k I L) (hF : Fr G l F (I 1 1).toInt p I) (ha : ag scC [] I I1) (hz : zok (dwk I) (I 25 2).toInt) (hmn : (I 25 2).toInt ≤ 100000) (hgn : (I 1 1).toInt = gn) (hx : x3.toInt = way) (hw : way < 3) : ∀ (m : Nat) (pre : List Nat) (S : zBS) (J : jS) (x1 x2 : Int32) (Qv : jS → jL → Prop), pre.length + m = gn → (∀ n ∈ pre, n < gn) → ag scM tcM I1 J → x1.toInt = pre.length → btN x2 (fun j => j ∈ pre) → (∀ i, i < pre.length → (J 81 i).toInt = pre.getD i 0) → KT gn J S →
    (∀ J', ag scM tcM I1 J' → (∀ i, i < pre.length → J' 81 i = J 81 i) → KT gn J' (rf (lfS F p I way) skM gn m pre S) → Qv J' L) → cV G l mX12_soonestOn (d + m + 106) [.ref 71, .int x1, .int x2, .int x3] J L Qv := by
  have hg := hF.1
  intro m
  induction m with
  | zero =>
    intro pre S J x1 x2 Qv hlen hpre haJ h1 h2 h81 hK hQ
    have hall : ag (scC ++ scM) tcM I J := ha.th haJ
    have hFJ := hF.ag hall rfl
    refine wX12_soonestOn_ok (Q := fun v I' L' => v = none ∧ Qv I' L') ?_
    unfold wX12_soonestOn
    rw [if_pos (by rw [zeq, h1, hFJ.2.2.1, hgn]; omega)]
    have hmem : ∀ i, i < gn → pre.getD i 0 < gn := fun i hi => by
      have : pre.getD i 0 ∈ pre := by
        simp [List.getElem?_eq_getElem (show i < pre.length by omega)]
      exact hpre _ this
    refine tX12_begins1 ?_
    have hIm := Im_beg (G := G) (l := l) (p := p) h0 hall
    have hb := ag_begin (J := J)
    generalize u2 (cpk J 80 76 24) 71 20 (J 71 8) = M0 at *
    have hgd := getD_map pre
    rw [show pre.length = gn by omega] at hgd
    generalize hR : TW F p I way pre = R
    have hR' : zWL F p (p 0) way ((List.range' 0 gn).map (fun i => pre.getD i 0)) (true, dwk I, (I 25 2).toInt) = R := by rw [hgd]; exact hR
    have key : ∀ (q i : Nat) M (U : zU) (x4 : Int32), i + q = gn → ag [79, 80, 83] [13, 14, 15, 16, 17, 20, 24, 30] J M → Im M p (p 0) U.2.1 U.2.2 → x4 = (if U.1 = true then 1 else 0) → ((∀ s, s < 24 → 0 ≤ U.2.1 s ∧ U.2.1 s ≤ 99) ∧ 0 ≤ U.2.2 ∧ U.2.2 ≤ (I 25 2).toInt + 78 * i) → zWL F p (p 0) way ((List.range' i q).map (fun i => pre.getD i 0)) U = R → wX12_soonestOn_18 G l (d + 105) (fun v I' L' => v = none ∧ Qv I' L') (q + 1) x3 x4 (Int32.ofNat i) M L := by
      intro q
      induction q with
      | zero =>
        intro i M U x4 hi haM hM h4 hU hr
        have hr' : U = R := hr
        rw [← hr'] at hR
        have haM1 : ag scM tcM I1 M := haJ.ml haM
        have hFM := hF.ag (ag.th (S := scC ++ scM) (T := tcM) ha haM1) rfl
        have hKM := hK.ag haM rfl rfl
        have e81 : M 81 = J 81 := haM.c 81
        unfold wX12_soonestOn_18
        rw [if_pos (by rw [zle, hFM.2.2.1, zo (by omega)]; omega)]
        have keep : U.1 = true → (S.1 < 0 ∨ U.2.2 < S.1) → wX12_soonestOn_92 G l (d + 105) (fun v I' L' => v = none ∧ Qv I' L') M L := fun q1 q2 => by
          unfold wX12_soonestOn_92
          have hau : ag [] [31] M (u2 M 71 31 (M 71 20)) := agm ag.rf (by decide)
          have haM2 : ag scM tcM I1 (u2 M 71 31 (M 71 20)) := haM1.ml hau
          have hFM2 := hF.ag (ag.th (S := scC ++ scM) (T := tcM) ha haM2) rfl
          refine tX12_keepsOrder (by rw [hFM2.2.2.1, hgn]) (by omega) ⟨rfl, hQ _ (agc (agm haM2 (by decide)) (by decide) (by decide)) (fun i hi => ?_) ?_⟩
          · rw [cpk_ne (by decide), u2n (by decide), u2n (by decide), e81]
          · unfold rf lfS
            rw [hR, if_pos ⟨q1, q2⟩]
            refine ⟨?_, fun _ i hi => ?_⟩
            · rw [cpk_ne (by decide), u2i (by decide), u2e]; exact hM.2.2
            · rw [cpk_eq hi, u2n (by decide), u2n (by decide), e81]; exact h81 i (by omega)
        have stay : ¬ (U.1 = true ∧ (S.1 < 0 ∨ U.2.2 < S.1)) → (none : Option Value) = none ∧ Qv M L := fun q1 => by
          refine ⟨rfl, hQ M haM1 (fun i hi => by rw [e81]) ?_⟩
          unfold rf lfS
          rw [hR, if_neg q1]
          exact hKM
        refine ife (fun c => stay (fun z => ?_)) (fun c => ?_)
        · rw [h4, if_pos z.1] at c; exact absurd c (by decide)
        · have c1 : U.1 = true := by
            by_cases z : U.1 = true
            · exact z
            · rw [h4, if_neg z] at c; exact absurd rfl c
          refine ife (fun c2 => keep c1 (Or.inl ?_)) (fun c2 => ife (fun c3 => stay (fun z => ?_)) (fun c3 => keep c1 (Or.inr ?_)))
          · rw [zlt, z0, hKM.1] at c2; exact c2
          · rw [zlt, z0, hKM.1] at c2
            rw [zle, hKM.1, hM.2.2] at c3
            omega
          · rw [zle, hKM.1, hM.2.2] at c3
            omega
      | succ q ihq =>
        intro i M U x4 hi haM hM h4 hU hr
        have haM1 : ag scM tcM I1 M := haJ.ml haM
        have hFM := hF.ag (ag.th (S := scC ++ scM) (T := tcM) ha haM1) rfl
        have e81 : M 81 = J 81 := haM.c 81
        have hmi := hmem i (by omega)
        unfold wX12_soonestOn_18
        rw [if_neg (by rw [zle, hFM.2.2.1, zo (by omega)]; omega)]
        refine ⟨by rw [zin, zo (by omega)]; omega, ?_⟩
        rw [zon (by omega)]
        have hb2 := zwt_b (p := p) (st := p 0) (way := way) (n := pre.getD i 0) (wk := U.2.1) (mn := U.2.2)
        refine tX12_waitsFor (d := d + 1) hFM hM ⟨hU.1, hU.2.1, by omega⟩ (by omega) (zst0 hF) (n := pre.getD i 0) (by rw [e81]; exact h81 i (by omega)) (by omega) hx hw (fun r2 M2 hr2 ha2 hM2 h30 => ?_)
        have haM2 : ag [79, 80, 83] [13, 14, 15, 16, 17, 20, 24, 30] J M2 := haM.th ha2
        have e : List.range' i (q + 1) = i :: List.range' (i + 1) q := rfl
        rw [e, List.map_cons] at hr
        have hzc := zwc_ok hF (st := p 0) (S := U.2) hw (n := pre.getD i 0) (by omega) ⟨hU.1, hU.2.1, by omega⟩ (by omega)
        have hU' : (∀ s, s < 24 → 0 ≤ (zwc F p (p 0) way (pre.getD i 0) U.2).1 s ∧ (zwc F p (p 0) way (pre.getD i 0) U.2).1 s ≤ 99) ∧ 0 ≤ (zwc F p (p 0) way (pre.getD i 0) U.2).2 ∧ (zwc F p (p 0) way (pre.getD i 0) U.2).2 ≤ (I 25 2).toInt + 78 * ((i + 1 : Nat) : Int) := ⟨hzc.1, by omega, by omega⟩
        rw [h30]
        have step0 : ¬ 0 ≤ zfw p (p 0) way (pre.getD i 0) U.2.1 U.2.2 → wX12_soonestOn_59 G l (d + 105) (fun z0 z1 z2 I L => wX12_soonestOn_18 G l (d + 105) (fun v I' L' => v = none ∧ Qv I' L') (q + 1) z0 z1 z2 I L) (fun v I' L' => v = none ∧ Qv I' L') x3 (Int32.ofNat i) x4 M2 L := fun z => by
          unfold wX12_soonestOn_59
          rw [zsucc]
          refine ihq (i + 1) M2 _ _ (by omega) haM2 hM2 ?_ hU' hr
          simp only
          rw [decide_eq_false z, Bool.and_false, if_neg (by decide)]
          rw [h4]
          by_cases z2 : U.1 = true
          · rw [if_pos z2]; decide
          · rw [if_neg z2]; decide
        refine ifz (fun c => step0 c) (fun c => ?_)
        refine ife (fun c2 => ?_) (fun c2 => ?_)
        · rw [zlt, z0, hr2] at c2
          omega
        · rw [zsucc]
          refine ihq (i + 1) M2 _ _ (by omega) haM2 hM2 ?_ hU' hr
          simp only
          rw [decide_eq_true c, Bool.and_true, h4]
          by_cases z : U.1 = true
          · rw [if_pos z]; decide
          · rw [if_neg z]; decide
    exact ⟨_, key gn 0 M0 (true, dwk I, (I 25 2).toInt) 1 (by omega) (hb.up rfl rfl) hIm rfl ⟨hz.1, hz.2.1, by simp⟩ hR'⟩
  | succ m ih =>
    intro pre S J x1 x2 Qv hlen hpre haJ h1 h2 h81 hK hQ
    have hall : ag (scC ++ scM) tcM I J := ha.th haJ
    have hFJ := hF.ag hall rfl
    rw [show d + (m + 1) + 106 = (d + m + 106) + 1 by omega]
    refine wX12_soonestOn_ok (Q := fun v I' L' => v = none ∧ Qv I' L') ?_
    unfold wX12_soonestOn
    rw [if_neg (by rw [zeq, h1, hFJ.2.2.1, hgn]; omega)]
    have hn1 : x1.toNatClampNeg = pre.length := by rw [znat]; omega
    have hin1 : vp_in x1 7 := by rw [zin]; omega
    generalize hRd : rf (lfS F p I way) skM gn (m + 1) pre S = R at hQ
    unfold rf at hRd
    have loop : ∀ (q j : Nat) (N : jS) (S' : zBS), j + q = gn → ag scM tcM I1 N → (∀ i, i < pre.length → N 81 i = J 81 i) → KT gn N S' → rlo (fun j S => if skM pre j = true then S else rf (lfS F p I way) skM gn m (pre ++ [j]) S) q j S' = R → wX12_soonestOn_109 G l (d + m + 106) (fun v I' L' => v = none ∧ Qv I' L') (q + 1) x1 x2 x3 (Int32.ofNat j) N L := by
      intro q
      induction q with
      | zero =>
        intro j N S' hj haN hN81 hKN hr
        have hFN := hF.ag (ag.th (S := scC ++ scM) (T := tcM) ha haN) rfl
        have hr' : S' = R := hr
        subst hr'
        unfold wX12_soonestOn_109
        rw [if_pos (by rw [zle, hFN.2.2.1, zo (by omega)]; omega)]
        exact ⟨rfl, hQ N haN hN81 hKN⟩
      | succ q ihq =>
        intro j N S' hj haN hN81 hKN hr
        have hFN := hF.ag (ag.th (S := scC ++ scM) (T := tcM) ha haN) rfl
        unfold rlo at hr
        unfold wX12_soonestOn_109
        rw [if_neg (by rw [zle, hFN.2.2.1, zo (by omega)]; omega)]
        have hbit : bitP x2 (Int32.ofNat j) ↔ j ∈ pre := (bitP_bt (x := x2) (k := j) (by omega)).trans (h2 j (by omega))
        refine tX12_isIn (ifz (fun c => ?_) (fun c => ?_))
        · rw [hbit] at c
          rw [if_neg (show ¬ skM pre j = true by unfold skM; rw [decide_eq_true_iff]; exact c)] at hr
          refine ⟨hin1, ?_⟩
          rw [hn1]
          have hau : ag [81] [] N (u2 N 81 pre.length (Int32.ofNat j)) := agu ag.rf (by simp) (by decide)
          have e81 : ∀ i, (u2 N 81 pre.length (Int32.ofNat j)) 81 i = if i = pre.length then Int32.ofNat j else N 81 i := fun i => by
            rw [u2_ap]
            by_cases e : i = pre.length
            · rw [if_pos ⟨rfl, e⟩, if_pos e]
            · rw [if_neg (fun z => e z.2), if_neg e]
          refine ih (pre ++ [j]) S' _ _ _ _ (by rw [List.length_append]; simp; omega) (fun n hn => ?_) (haN.ml hau) ?_ (btN_or h2 (by omega)) (fun i hi => ?_) (hKN.ag hau rfl rfl) (fun N3 ha3 h81' hK3 => ?_)
          · rcases List.mem_append.mp hn with z | z
            · exact hpre n z
            · have := List.mem_singleton.mp z; omega
          · rw [zadd (by rw [h1, z1]; omega) (by rw [h1, z1]; omega), h1, z1, List.length_append]; simp
          · rw [List.length_append] at hi
            simp only [List.length_cons, List.length_nil] at hi
            rw [e81 i, getD_snoc' (by omega)]
            by_cases e : i = pre.length
            · rw [if_pos e, if_neg (by omega), zo (by omega)]
            · rw [if_neg e, if_pos (by omega), hN81 i (by omega)]; exact h81 i (by omega)
          · have hl1 : (pre ++ [j]).length = pre.length + 1 := by simp
            rw [hl1] at h81'
            rw [zsucc]
            refine ihq (j + 1) N3 _ (by omega) ha3 (fun i hi => ?_) hK3 hr
            rw [h81' i (by omega), e81 i, if_neg (by omega)]
            exact hN81 i hi
        · rw [hbit] at c
          rw [if_pos (show skM pre j = true by unfold skM; exact decide_eq_true c)] at hr
          rw [zsucc]
          exact ihq (j + 1) N S' (by omega) haN hN81 hKN hr
    exact ⟨_, loop gn 0 J S (by omega) haJ (fun _ _ => rfl) hK hRd⟩
theorem T_soonest {a b : Int32} (h : Inv (LRl G l) k I L) (hk5 : k ≤ 512) (hk : ∀ r I' L', Inv (LRl G l) (k + 1) I' L' → K r r I' L') :
    cI G l mX11_soonest (d + 129) [.ref 0, .int a, .int b] I L (fun r I1 L1 => cI G l mX12_soonest (d + 129) [.ref 71, .int a, .int b] I1 L1 (fun r' I2 L2 => K r r' I2 L2)) := by
  obtain ⟨F, p, hF, hp⟩ := h.fr
  obtain ⟨hP, hC, hI, hT, hR, hD, hG, hA, hS, hM⟩ := id h
  have hz := dz h hk5
  have hmn := dmn h hk5
  have hg := hF.1
  have i25 : isIce 25 := by unfold isIce; decide
  have hgn : (I 1 1).toInt = ((I 1 1).toInt.toNat : Nat) := by omega
  generalize (I 1 1).toInt.toNat = gn at hgn
  have hpos : ∀ way, way < 3 → (rf (lfS F p I way) skM gn gn [] (-2, [])).1 = -2 ∨ (0 ≤ (rf (lfS F p I way) skM gn gn [] (-2, [])).1 ∧ (rf (lfS F p I way) skM gn gn [] (-2, [])).1 ≤ 200000) := fun way hw => by
    refine rf_inv (N := gn) (fun S => S.1 = -2 ∨ (0 ≤ S.1 ∧ S.1 ≤ 200000)) (fun pre S h1 h2 h3 => ?_) gn [] (-2, []) (by simp) (fun n hn => absurd hn (by simp)) (Or.inl rfl)
    have ho := TW_ok hF hz (by omega) hgn hw (pre := pre) (by omega) h2
    have ho2 := ho.1.2.1
    unfold lfS
    by_cases q : (TW F p I way pre).1 = true ∧ (S.1 < 0 ∨ (TW F p I way pre).2.2 < S.1)
    · rw [if_pos q]; simp only; omega
    · rw [if_neg q]; exact h3
  refine scr2 h (if (0 ≤ a.toInt ∧ a.toInt < 3) ∧ -1 ≤ b.toInt then (if 5 < (gn : Int) then -5 else if (gn : Int) ≤ b.toInt then -2 else if b.toInt < 0 ∨ (rf (lfS F p I a.toInt.toNat) skM gn gn [] (-2, [])).1 < 0 then (rf (lfS F p I a.toInt.toNat) skM gn gn [] (-2, [])).1 else ((rf (lfS F p I a.toInt.toNat) skM gn gn [] (-2, [])).2.getD b.toInt.toNat 0 : Nat)) else -1) (fun Q hq => ?_) (fun I1 ha Q hq => ?_) hk
  · refine wX11_soonest_ok ?_
    unfold wX11_soonest
    refine tX11_isWay (ifz (fun c1 => ri (hq _ _ (by rw [if_neg (fun q => c1 q.1)]; rfl) ag.rf)) (fun c1 => ife (fun c2 => ife (fun c0 => ife (fun c3 => ?_) (fun c3 => ri (hq _ _ ?_ ag.rf))) (fun c0 => ri (hq _ _ ?_ ag.rf))) (fun c2 => ri (hq _ _ ?_ ag.rf))))
    · rw [zle, zl_m1] at c2
      rw [zle, zl_5, hgn] at c0
      rw [zlt, hgn] at c3
      rw [if_pos ⟨c1, c2⟩, if_neg (by omega), if_neg (by omega)] at hq
      have haw : a.toInt = (a.toInt.toNat : Nat) := by omega
      have hw3 : a.toInt.toNat < 3 := by omega
      generalize a.toInt.toNat = way at *
      have hps := hpos way hw3
      generalize hRR : rf (lfS F p I way) skM gn gn [] (-2, []) = RR at *
      refine wX8_soonestMinute_ok i25 ?_
      unfold wX8_soonestMinute
      refine tX8_begin hF (fun J1 ha1 hJ1 h6 => ?_)
      have hb1 : ag scC [] I J1 := ha1.up rfl rfl
      have hd : d + 127 = (d + 120 - gn) + gn + 7 := by omega
      rw [hd]
      refine tX8_tryWaiting (d := d + 120 - gn) (way := way) hF hz (by omega) hgn haw hw3 gn [] (-2, []) J1 0 0 _ (by simp) (fun n hn => absurd hn (by simp)) hb1 rfl hJ1 rfl (fun t ht => by rw [bt_0]; simp) (fun i hi => absurd hi (by simp)) ⟨by rw [h6]; rfl, fun z => absurd z (by decide)⟩ (fun J2 ha2 _ _ _ hK2 => ?_)
      rw [hRR] at hK2
      refine ife (fun q => ⟨_, rfl, ?_⟩) (fun q => ⟨_, rfl, ?_⟩)
      · rw [zeq, hK2.1, zl_1000000000] at q
        have hneg : RR.1 < 0 := by
          by_cases z : RR.1 < 0
          · exact z
          · rw [if_neg z] at q; omega
        rw [if_pos (Or.inr hneg)] at hq
        refine ife (fun _ => ri (hq _ _ (by rw [zl_m2]; omega) ha2)) (fun z => absurd rfl z)
      · rw [zeq, hK2.1, zl_1000000000] at q
        have hneg : ¬ RR.1 < 0 := fun z => q (by rw [if_pos z])
        have h37 := hK2.1
        rw [if_neg hneg] at h37
        refine ife (fun q2 => ?_) (fun q2 => ife (fun q3 => ?_) (fun q3 => ri (hq _ _ ?_ ha2)))
        · rw [zeq, h37, zl_m2] at q2
          omega
        · rw [zle, z0] at q3
          rw [if_neg (by omega)] at hq
          exact tX8_found (i := b.toInt.toNat) (by omega) (by omega) (ri (hq _ _ (hK2.2 (by omega) _ (by omega)) ha2))
        · rw [zle, z0] at q3
          rw [if_pos (by omega)]; exact h37
    · rw [zle, zl_m1] at c2
      rw [zle, zl_5, hgn] at c0
      rw [zlt, hgn] at c3
      rw [if_pos ⟨c1, c2⟩, if_neg (by omega), if_pos (by omega)]; rfl
    · rw [zle, zl_m1] at c2
      rw [zle, zl_5, hgn] at c0
      rw [if_pos ⟨c1, c2⟩, if_pos (by omega)]; rfl
    · rw [zle, zl_m1] at c2
      rw [if_neg (fun q => c2 q.2)]; rfl
  · have e6 : (I1 71 6).toInt = gn := by rw [ha.m 6, hP.1]; exact hgn
    refine wX12_soonest_ok ?_
    unfold wX12_soonest
    refine tX12_isWay (ifz (fun c1 => ri (hq _ _ (by rw [z64] at c1; rw [if_neg (fun q => c1 q.1)]; rfl) ag.rf)) (fun c1 => ife (fun c2 => ife (fun c0 => ?_) (fun c0 => ri (hq _ _ ?_ ag.rf))) (fun c2 => ri (hq _ _ ?_ ag.rf))))
    · rw [z64] at c1
      rw [zle, zl_m1] at c2
      rw [zle, zl_5, e6] at c0
      rw [if_pos ⟨c1, c2⟩, if_neg (by omega)] at hq
      have haw : a.toInt = (a.toInt.toNat : Nat) := by omega
      have hw3 : a.toInt.toNat < 3 := by omega
      generalize a.toInt.toNat = way at *
      have hps := hpos way hw3
      generalize hRR : rf (lfS F p I way) skM gn gn [] (-2, []) = RR at *
      have hm1 : ag scM tcM I1 (u2 I1 71 31 (-2)) := agm ag.rf (by decide)
      have hd : d + 128 = (d + 22 - gn) + gn + 106 := by omega
      rw [hd]
      refine tX12_soonestOn (d := d + 22 - gn) h hF ha hz (by omega) hgn haw hw3 gn [] (-2, []) _ 0 0 _ (by simp) (fun n hn => absurd hn (by simp)) hm1 rfl (fun t ht => by rw [bt_0]; simp) (fun i hi => absurd hi (by simp)) ⟨by rw [u2e]; rfl, fun z => absurd z (by decide)⟩ (fun J2 ha2 _ hK2 => ?_)
      rw [hRR] at hK2
      have hF2 := hF.ag (ag.th (S := scC ++ scM) (T := tcM) ha ha2) rfl
      refine ife (fun q => ri (hq _ _ ?_ ha2)) (fun q => ife (fun q1 => ife (fun q2 => ri (hq _ _ ?_ ha2)) (fun q2 => ⟨?_, ri (hq _ _ ?_ ha2)⟩)) (fun q1 => ri (hq _ _ ?_ ha2)))
      · rw [zlt, z0] at q
        rw [if_neg (by omega), if_pos (Or.inl q)]; exact hK2.1
      · rw [zlt, z0] at q
        rw [zle, hF2.2.2.1, hgn] at q2
        rw [if_pos q2]; rfl
      · rw [zlt, z0] at q
        rw [zle, hF2.2.2.1, hgn] at q2
        rw [zin]; omega
      · rw [zlt, z0] at q
        rw [zle, z0, hK2.1] at q1
        rw [zle, hF2.2.2.1, hgn] at q2
        rw [if_neg q2, if_neg (by omega), znat]
        exact hK2.2 (by omega) _ (by omega)
      · rw [zlt, z0] at q
        rw [zle, z0, hK2.1] at q1
        rw [hK2.1]
        by_cases q3 : (gn : Int) ≤ b.toInt
        · rw [if_pos q3]; omega
        · rw [if_neg q3, if_pos (Or.inr (by omega))]
    · rw [z64] at c1
      rw [zle, zl_m1] at c2
      rw [zle, zl_5, e6] at c0
      rw [if_pos ⟨c1, c2⟩, if_pos (by omega)]; rfl
    · rw [zle, zl_m1] at c2
      rw [if_neg (fun q => c2 q.2)]; rfl
end S2

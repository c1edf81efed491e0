/-! several: the reference -/
section V2
variable {G : jG} {l : Launch} {d k : Nat} {F : Option lF} {g : Int} {p : Nat → Nat → Int} {I : jS} {L : jL} {st wk : Nat → Int} {mn : Int} {Q : Int32 → jS → jL → Prop} {Qv : jS → jL → Prop} {K : Int32 → Int32 → jS → jL → Prop}
def KV (gn : Nat) (x3 x4 : Int32) (S : zBS) : Prop := x4.toInt = S.1 ∧ (S.1 ≠ -1 → ∃ bc : Nat, x3.toInt = bc ∧ bc ≤ 2187 ∧ S.2 = dg gn bc)
theorem zdivn {x y : Int32} {c P : Nat} (hx : x.toInt = c) (hy : y.toInt = P) (hP : 1 ≤ P) : (x / y).toInt = ((c / P : Nat) : Int) := by
  rw [zdiv (by omega) (by omega), hx, hy]
  exact (Int.natCast_ediv c P).symm
theorem T_several {a : Int32} (h : Inv (LRl G l) k I L) (hk5 : k ≤ 512) (hk : ∀ r I' L', Inv (LRl G l) (k + 1) I' L' → K r r I' L') :
    cI G l mX11_several (d + 129) [.ref 0, .int a] I L (fun r I1 L1 => cI G l mX12_several (d + 129) [.ref 71, .int a] I1 L1 (fun r' I2 L2 => K r r' I2 L2)) := by
  obtain ⟨F, p, hF, hp⟩ := h.fr
  obtain ⟨hP, hC, hI, hT, hR, hD, hG, hA, hS, hM⟩ := id h
  have hz := dz h hk5
  have hmn := dmn h hk5
  have hg := hF.1
  have i25 : isIce 25 := by unfold isIce; decide
  have hgn : (I 1 1).toInt = ((I 1 1).toInt.toNat : Nat) := by omega
  generalize (I 1 1).toInt.toNat = gn at hgn
  have hpos : 0 ≤ (rf (lfV F p I) skF 3 gn [] (-1, [])).1 := rf_pos (fun pre S => by
    have := TV_b (F := F) (p := p) (I := I) (pre := pre)
    unfold lfV
    by_cases q : S.1 < (TV F p I pre).1
    · rw [if_pos q]; simp only; omega
    · rw [if_neg q]; omega) gn [] (-1, [])
  refine scr2 h (if -1 ≤ a.toInt ∧ a.toInt < gn then (if a.toInt < 0 then (rf (lfV F p I) skF 3 gn [] (-1, [])).1 else ((rf (lfV F p I) skF 3 gn [] (-1, [])).2.getD a.toInt.toNat 0 : Nat)) else -1) (fun Q hq => ?_) (fun I1 ha Q hq => ?_) hk
  · refine wX11_several_ok ?_
    unfold wX11_several
    refine ife (fun c1 => ri (hq _ _ ?_ ag.rf)) (fun c1 => ife (fun c2 => ?_) (fun c2 => ri (hq _ _ ?_ ag.rf)))
    · rw [zlt, zl_m1] at c1
      rw [if_neg (by omega)]; rfl
    · rw [zlt, zl_m1] at c1
      rw [zlt, hgn] at c2
      rw [if_pos (by omega)] at hq
      refine wX8_mostParted_ok i25 ?_
      unfold wX8_mostParted
      refine tX8_begin hF (fun J1 ha1 hJ1 h6 => ?_)
      have hb1 : ag scC [] I J1 := ha1.up rfl rfl
      have hd : d + 127 = (d + 120 - gn) + gn + 7 := by omega
      rw [hd]
      refine tX8_tryWays (d := d + 120 - gn) hF hz (by omega) hgn gn [] (-1, []) J1 0 0 _ (by simp) (fun n hn => absurd hn (by simp)) hb1 hJ1 rfl rfl (fun i hi => absurd hi (by simp)) ⟨by rw [h6]; rfl, fun z => absurd rfl z⟩ (fun J2 ha2 _ _ _ hK2 => ?_)
      refine ⟨_, rfl, ?_⟩
      refine ife (fun q => ?_) (fun q => ri (hq _ _ ?_ ha2))
      · rw [zle, z0] at q
        rw [if_neg (by omega)] at hq
        exact tX8_found (i := a.toInt.toNat) (by omega) (by omega) (ri (hq _ _ (hK2.2 (by omega) _ (by omega)) ha2))
      · rw [zle, z0] at q
        rw [if_pos (by omega)]; exact hK2.1
    · rw [zlt, zl_m1] at c1
      rw [zlt, hgn] at c2
      rw [if_neg (by omega)]; rfl
  · have hr0 := rl_rf (leaf := lfV F p I) gn 0 0 (-1, [])
    rw [Nat.zero_mul, Nat.zero_add] at hr0
    have hr0 : rlo (fun c S => lfV F p I (dg gn c) S) (3 ^ gn) 0 (-1, []) = rf (lfV F p I) skF 3 gn [] (-1, []) := hr0
    have e6 : (I1 71 6).toInt = gn := by rw [ha.m 6, hP.1]; exact hgn
    have hpw := pow3_b (n := gn) (by omega)
    refine wX12_several_ok ?_
    unfold wX12_several
    have main : -1 ≤ a.toInt ∧ a.toInt < gn → ∃ e20 : Nat, wX12_several_20 G l (d + 128) (fun v I' L' => ∃ r, v = some (.int r) ∧ Q r I' L') e20 a 1 0 I1 L := fun hok => by
      rw [if_pos hok] at hq
      generalize hRR : rf (lfV F p I) skF 3 gn [] (-1, []) = RR at *
      -- the digit asked for
      have dig : ∀ (q b : Nat) (x3 x5 : Int32) J, 0 ≤ a.toInt → x3.toInt = b → b ≤ 2187 → x5.toInt = a.toInt + q → ag scM tcM I1 J → RR.2.getD a.toInt.toNat 0 = b / 3 ^ q % 3 → wX12_several_163 G l (d + 128) (fun v I' L' => ∃ r, v = some (.int r) ∧ Q r I' L') (q + 1) a x3 x5 J L := by
        intro q
        induction q with
        | zero =>
          intro b x3 x5 J h0 h3 hb h5 haJ hv
          unfold wX12_several_163
          rw [if_pos (by rw [zle, h5]; omega)]
          refine ri (hq _ _ ?_ haJ)
          rw [if_neg (by omega), hv, (zmod3 h3 (by omega)).1]
          simp
        | succ q ihq =>
          intro b x3 x5 J h0 h3 hb h5 haJ hv
          unfold wX12_several_163
          rw [if_neg (by rw [zle, h5]; omega)]
          refine ihq (b / 3) _ _ J h0 (zmod3 h3 (by omega)).2 (by omega) ?_ haJ ?_
          · have := zrange x5
            rw [zadd (by rw [h5, zl_m1]; omega) (by rw [h5, zl_m1]; omega), h5, zl_m1]; omega
          · rw [hv, Nat.div_div_eq_div_mul, Nat.pow_succ, Nat.mul_comm 3]
      have codes : ∀ (q c : Nat) J (S : zBS) (x2 x3 x4 : Int32), x2.toInt = (3 ^ gn : Nat) → c + q = 3 ^ gn → ag scM tcM I1 J → KV gn x3 x4 S → rlo (fun c S => lfV F p I (dg gn c) S) q c S = RR → wX12_several_46 G l (d + 128) (fun v I' L' => ∃ r, v = some (.int r) ∧ Q r I' L') (q + 1) a x2 x3 x4 (Int32.ofNat c) J L := by
        intro q
        induction q with
        | zero =>
          intro c J S x2 x3 x4 h2 hc haJ hK hr
          have hFJ := hF.ag (ag.th (S := scC ++ scM) (T := tcM) ha haJ) rfl
          have hr' : S = RR := hr
          unfold wX12_several_46
          rw [if_pos (by rw [zle, h2, zo (by omega)]; omega)]
          refine ife (fun q => ?_) (fun q => ri (hq _ _ ?_ haJ))
          · rw [zle, z0] at q
            obtain ⟨bc, k1, k2, k3⟩ := hK.2 (by rw [hr']; omega)
            refine ⟨_, dig (gn - 1 - a.toInt.toNat) bc x3 _ J q k1 k2 ?_ haJ ?_⟩
            · rw [zsub (by rw [hFJ.2.2.1, z1]; omega) (by rw [hFJ.2.2.1, z1]; omega), hFJ.2.2.1, z1]; omega
            · rw [← hr', k3]; exact dg_get gn bc a.toInt.toNat (by omega)
          · rw [zle, z0] at q
            rw [if_pos (by omega), hK.1, hr']
        | succ q ihq =>
          intro c J S x2 x3 x4 h2 hc haJ hK hr
          unfold rlo at hr
          unfold wX12_several_46
          rw [if_neg (by rw [zle, h2, zo (by omega)]; omega)]
          refine tX12_begins1 ?_
          have hall : ag (scC ++ scM) tcM I J := ha.th haJ
          have hIm := Im_beg (G := G) (l := l) (p := p) h hall
          have hb := ag_begin (J := J)
          have haM0 : ag scM tcM I1 (u2 (cpk J 80 76 24) 71 20 (J 71 8)) := haJ.ml hb
          generalize u2 (cpk J 80 76 24) 71 20 (J 71 8) = M0 at *
          have hgd := getD_map (dg gn c)
          rw [dg_len] at hgd
          have hTV : zV F p (p 0) ((List.range' 0 gn).map (fun i => (dg gn c).getD i 0)) 0 (0, dwk I, (I 25 2).toInt) = TV F p I (dg gn c) := by rw [hgd]; rfl
          have hTb := TV_b (F := F) (p := p) (I := I) (pre := dg gn c)
          rw [dg_len] at hTb
          have inner : ∀ (r i : Nat) M (U : zT) (x6 x7 : Int32), i + r = gn → ag scM tcM I1 M → Im M p (p 0) U.2.1 U.2.2 → x6.toInt = U.1 → zTok (I 25 2).toInt i U → x7.toInt = (3 ^ r : Nat) → zV F p (p 0) ((List.range' i r).map (fun i => (dg gn c).getD i 0)) i U = TV F p I (dg gn c) → wX12_several_65 G l (d + 128) (fun z0 z1 z2 z3 z4 I L => wX12_several_46 G l (d + 128) (fun v I' L' => ∃ r, v = some (.int r) ∧ Q r I' L') (q + 1) z0 z1 z2 z3 z4 I L) (fun v I' L' => ∃ r, v = some (.int r) ∧ Q r I' L') (r + 1) a x2 x3 x4 (Int32.ofNat c) x6 x7 (Int32.ofNat i) M L := by
            intro r
            induction r with
            | zero =>
              intro i M U x6 x7 hi haM hM h6 hU h7 hv
              have hFM := hF.ag (ag.th (S := scC ++ scM) (T := tcM) ha haM) rfl
              have hv' : U = TV F p I (dg gn c) := hv
              rw [hv'] at h6
              unfold wX12_several_65
              rw [if_pos (by rw [zle, hFM.2.2.1, zo (by omega)]; omega)]
              unfold wX12_several_125
              refine ife (fun z => ?_) (fun z => ?_)
              · rw [if_pos z, zsucc]
                rw [zle, h6, hK.1] at z
                have hl : lfV F p I (dg gn c) S = S := by unfold lfV; rw [if_neg (by omega)]
                rw [hl] at hr
                exact ihq (c + 1) M S x2 x3 x4 h2 (by omega) haM hK hr
              · rw [if_neg z, zsucc]
                rw [zle, h6, hK.1] at z
                have hl : lfV F p I (dg gn c) S = ((TV F p I (dg gn c)).1, dg gn c) := by unfold lfV; rw [if_pos (by omega)]
                rw [hl] at hr
                exact ihq (c + 1) M _ x2 _ x6 h2 (by omega) haM ⟨h6, fun _ => ⟨c, zo (by omega), by omega, rfl⟩⟩ hr
            | succ r ihr =>
              intro i M U x6 x7 hi haM hM h6 hU h7 hv
              have hFM := hF.ag (ag.th (S := scC ++ scM) (T := tcM) ha haM) rfl
              have hpr := pow3_b (n := r) (by omega)
              have e7 : (x7 / 3).toInt = ((3 ^ r : Nat) : Int) := by
                have := (zmod3 (c := 3 ^ (r + 1)) h7 (by have := pow3_b (n := r + 1) (by omega); omega)).2
                rw [this, Nat.pow_succ, Nat.mul_div_cancel _ (by decide)]
              have ew := zdivn (x := Int32.ofNat c) (y := x7 / 3) (zo (k := c) (by omega)) e7 hpr.1
              have hcd : c / 3 ^ r ≤ c := Nat.div_le_self _ _
              have ew2 := (zmod3 ew (by omega)).1
              have hdg := dg_get gn c i (by omega)
              rw [show gn - 1 - i = r by omega] at hdg
              have hU1 := hU.1
              have hUm := hU.2.2
              unfold wX12_several_65
              rw [if_neg (by rw [zle, hFM.2.2.1, zo (by omega)]; omega)]
              refine ⟨fun z => by rw [zeq, e7, z0] at z; omega, ?_⟩
              rw [← hdg] at ew2
              have hw3 : (dg gn c).getD i 0 < 3 := by rw [hdg]; omega
              refine tX12_crosses hFM hM ⟨hU.2.1, hU.2.2.1, by omega⟩ (zst0 hF) (zo (k := i) (by omega)) (by omega) ew2 hw3 (fun M2 ha2 hM2 _ => ?_)
              have haM2 : ag scM tcM I1 M2 := haM.ml ha2
              have e : List.range' i (r + 1) = i :: List.range' (i + 1) r := rfl
              rw [e, List.map_cons] at hv
              have hok2 := zV_ok (st := p 0) hF (B := (I 25 2).toInt) ⟨hz.2.1, by omega⟩ [(dg gn c).getD i 0] i U (by simp; omega) (fun n hn => by rw [List.mem_singleton] at hn; omega) hU
              rw [show i + [(dg gn c).getD i 0].length = i + 1 from rfl] at hok2
              rw [zsucc]
              have hstep : (zV F p (p 0) [(dg gn c).getD i 0] i U).1 = U.1 + (if (zcross F p (p 0) ((dg gn c).getD i 0) i 0 false U.2.1 U.2.2).1 = -1 then 1 else 0) := rfl
              refine ifz (fun q2 => ihr (i + 1) M2 (zV F p (p 0) [(dg gn c).getD i 0] i U) _ _ (by omega) haM2 hM2 ?_ hok2 e7 hv) (fun q2 => ihr (i + 1) M2 (zV F p (p 0) [(dg gn c).getD i 0] i U) _ _ (by omega) haM2 hM2 ?_ hok2 e7 hv)
              · rw [hstep, if_neg q2, Int32.add_zero, h6]; omega
              · rw [hstep, if_pos q2, zadd (by rw [z1, h6]; omega) (by rw [z1, h6]; omega), z1, h6]
          exact ⟨_, inner gn 0 M0 (0, dwk I, (I 25 2).toInt) 0 x2 (by omega) haM0 hIm rfl ⟨by simp, hz.1, hz.2.1, by simp⟩ h2 hTV⟩
      have mk : ∀ (m i : Nat) (x2 : Int32), i + m = gn → x2.toInt = (3 ^ i : Nat) → wX12_several_20 G l (d + 128) (fun v I' L' => ∃ r, v = some (.int r) ∧ Q r I' L') (m + 1) a x2 (Int32.ofNat i) I1 L := by
        intro m
        induction m with
        | zero =>
          intro i x2 hi h2
          have : i = gn := by omega
          subst this
          unfold wX12_several_20
          rw [if_pos (by rw [zle, e6, zo (by omega)]; omega)]
          exact ⟨_, codes (3 ^ i) 0 I1 (-1, []) x2 0 (-1) h2 (by omega) ag.rf ⟨rfl, fun z => absurd rfl z⟩ hr0⟩
        | succ m ih =>
          intro i x2 hi h2
          have hpi := pow3_b (n := i) (by omega)
          unfold wX12_several_20
          rw [if_neg (by rw [zle, e6, zo (by omega)]; omega), zsucc]
          refine ih (i + 1) _ (by omega) ?_
          rw [zmul (by rw [h2, zl_3]; omega) (by rw [h2, zl_3]; omega), h2, zl_3, Nat.pow_succ]
          omega
      exact ⟨_, mk gn 0 1 (by omega) rfl⟩
    refine ife (fun c1 => ?_) (fun c1 => ?_)
    · rw [zeq, zl_m1] at c1
      exact main (by omega)
    · rw [zeq, zl_m1] at c1
      refine tX12_isGoer (by omega) (ifz (fun c2 => ri (hq _ _ ?_ ag.rf)) (fun c2 => ?_))
      · rw [z64, e6] at c2
        rw [if_neg (by omega)]; rfl
      · rw [z64, e6] at c2
        exact main (by omega)
end V2

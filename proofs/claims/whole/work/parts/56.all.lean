/-! all -/
section AL
variable {G : jG} {l : Launch} {d k : Nat} {F : Option lF} {g : Int} {p : Nat → Nat → Int} {I : jS} {L : jL} {st wk : Nat → Int} {mn : Int} {Q : Int32 → jS → jL → Prop} {Qv : jS → jL → Prop} {K : Int32 → Int32 → jS → jL → Prop}
theorem tX12_keepsOrder {x : Int32} {gn : Nat} (hg6 : (I 71 6).toInt = gn) (hg7 : gn ≤ 7) (h : Qv (cpk (u2 I 71 28 x) 82 81 gn) L) : cV G l mX12_keepsOrder (d + 1) [.ref 71, .int x] I L Qv := by
  refine wX12_keepsOrder_ok (Q := fun v I' L' => v = none ∧ Qv I' L') ?_
  unfold wX12_keepsOrder
  have e6 : ∀ k, (cpk (u2 I 71 28 x) 82 81 k) 71 6 = I 71 6 := fun k => by rw [cpk_ne (by decide), u2i (by decide)]
  have key : ∀ m k, k + m = gn → wX12_keepsOrder_7 G l d (fun v I' L' => v = none ∧ Qv I' L') (m + 1) (Int32.ofNat k) (cpk (u2 I 71 28 x) 82 81 k) L := by
    intro m
    induction m with
    | zero =>
      intro k hk
      have : k = gn := by omega
      subst this
      unfold wX12_keepsOrder_7
      rw [e6, if_pos (by rw [zle, hg6, zo (by omega)]; omega)]
      exact ⟨rfl, h⟩
    | succ m ih =>
      intro k hk
      unfold wX12_keepsOrder_7
      rw [e6, if_neg (by rw [zle, hg6, zo (by omega)]; omega)]
      refine ⟨by rw [zin, zo (by omega)]; omega, ?_⟩
      rw [zon (by omega), zsucc, cpk_src (by decide), cpk_succ (by decide)]
      exact ih (k + 1) (by omega)
  have := key gn 0 (by omega)
  rw [cpk_zero] at this
  exact ⟨_, this⟩
/-- what the reference's search has found -/
def KR (gn : Nat) (J : jS) (S : zBS) : Prop := (J 71 28).toInt = S.1 ∧ (S.1 ≠ -1 → ∀ i, i < gn → (J 82 i).toInt = S.2.getD i 0)
theorem KR.ag {gn : Nat} {J J' : jS} {S : zBS} {S1 T1 : List Nat} (h : KR gn J S) (ha : ag S1 T1 J J') (h1 : S1.contains 82 = false) (h2 : T1.contains 28 = false) : KR gn J' S := by
  unfold KR
  rw [ha.1 82 (by decide) (by simpa using h1), ha.2 28 (by simpa using h2)]
  exact h
theorem tX12_ordersOn {x3 : Int32} {way gn : Nat} {I1 : jS} (h0 : Inv (LRl G l) k I L) (hF : Fr G l F (I 1 1).toInt p I) (ha : ag scC [] I I1) (hz : zok (dwk I) (I 25 2).toInt) (hmn : (I 25 2).toInt ≤ 100000) (hgn : (I 1 1).toInt = gn) (hx : x3.toInt = way) (hw : way < 3) : ∀ (m : Nat) (pre : List Nat) (S : zBS) (J : jS) (x1 x2 : Int32) (Qv : jS → jL → Prop), pre.length + m = gn → (∀ n ∈ pre, n < gn) → ag scM tcM I1 J → x1.toInt = pre.length → btN x2 (fun j => j ∈ pre) → (∀ i, i < pre.length → (J 81 i).toInt = pre.getD i 0) → KR gn J S →
    (∀ J', ag scM tcM I1 J' → (∀ i, i < pre.length → J' 81 i = J 81 i) → KR gn J' (rf (lfA F p I way) skM gn m pre S) → Qv J' L) → cV G l mX12_ordersOn (d + m + 106) [.ref 71, .int x1, .int x2, .int x3] J L Qv := by
  have hg := hF.1
  intro m
  induction m with
  | zero =>
    intro pre S J x1 x2 Qv hlen hpre haJ h1 h2 h81 hK hQ
    have hall : ag (scC ++ scM) tcM I J := ha.th haJ
    have hFJ := hF.ag hall rfl
    refine wX12_ordersOn_ok (Q := fun v I' L' => v = none ∧ Qv I' L') ?_
    unfold wX12_ordersOn
    rw [if_pos (by rw [zeq, h1, hFJ.2.2.1, hgn]; omega)]
    have hmem : ∀ i, i < gn → pre.getD i 0 < gn := fun i hi => by
      have : pre.getD i 0 ∈ pre := by
        simp [List.getElem?_eq_getElem (show i < pre.length by omega)]
      exact hpre _ this
    refine tX12_overOrder (d := d + 1) (o := fun i => pre.getD i 0) h0 hF ha haJ hz hmn hgn hx hw (fun i hi => h81 i (by omega)) hmem (fun r J' haJ' hr => ?_)
    have hgd := getD_map pre
    rw [show pre.length = gn by omega] at hgd
    rw [hgd] at hr
    have hr : r.toInt = (TO F p I way pre).1 := hr
    have haJ1 : ag scM tcM I1 J' := haJ.ml haJ'
    have hK' := hK.ag haJ' rfl rfl
    have e81 : J' 81 = J 81 := haJ'.c 81
    refine ife (fun q => ⟨rfl, hQ J' haJ1 (fun i hi => by rw [e81]) ?_⟩) (fun q => ?_)
    · rw [zle, hr, hK'.1] at q
      unfold rf lfA
      rw [if_neg (by omega)]
      exact hK'
    · rw [zle, hr, hK'.1] at q
      have hFJ' := hF.ag (ag.th (S := scC ++ scM) (T := tcM) ha haJ1) rfl
      refine tX12_keepsOrder (by rw [hFJ'.2.2.1, hgn]) (by omega) ⟨rfl, hQ _ (agc (agm haJ1 (by decide)) (by decide) (by decide)) (fun i hi => ?_) ?_⟩
      · rw [cpk_ne (by decide), u2n (by decide), e81]
      · unfold rf lfA
        rw [if_pos (by omega)]
        refine ⟨?_, fun _ i hi => ?_⟩
        · rw [cpk_ne (by decide), u2e]; exact hr
        · rw [cpk_eq hi, u2n (by decide), e81]; exact h81 i (by omega)
  | succ m ih =>
    intro pre S J x1 x2 Qv hlen hpre haJ h1 h2 h81 hK hQ
    have hall : ag (scC ++ scM) tcM I J := ha.th haJ
    have hFJ := hF.ag hall rfl
    rw [show d + (m + 1) + 106 = (d + m + 106) + 1 by omega]
    refine wX12_ordersOn_ok (Q := fun v I' L' => v = none ∧ Qv I' L') ?_
    unfold wX12_ordersOn
    rw [if_neg (by rw [zeq, h1, hFJ.2.2.1, hgn]; omega)]
    have hn1 : x1.toNatClampNeg = pre.length := by rw [znat]; omega
    have hin1 : vp_in x1 7 := by rw [zin]; omega
    generalize hRd : rf (lfA F p I way) skM gn (m + 1) pre S = R at hQ
    unfold rf at hRd
    have loop : ∀ (q j : Nat) (N : jS) (S' : zBS), j + q = gn → ag scM tcM I1 N → (∀ i, i < pre.length → N 81 i = J 81 i) → KR gn N S' → rlo (fun j S => if skM pre j = true then S else rf (lfA F p I way) skM gn m (pre ++ [j]) S) q j S' = R → wX12_ordersOn_34 G l (d + m + 106) (fun v I' L' => v = none ∧ Qv I' L') (q + 1) x1 x2 x3 (Int32.ofNat j) N L := by
      intro q
      induction q with
      | zero =>
        intro j N S' hj haN hN81 hKN hr
        have hFN := hF.ag (ag.th (S := scC ++ scM) (T := tcM) ha haN) rfl
        have hr' : S' = R := hr
        subst hr'
        unfold wX12_ordersOn_34
        rw [if_pos (by rw [zle, hFN.2.2.1, zo (by omega)]; omega)]
        exact ⟨rfl, hQ N haN hN81 hKN⟩
      | succ q ihq =>
        intro j N S' hj haN hN81 hKN hr
        have hFN := hF.ag (ag.th (S := scC ++ scM) (T := tcM) ha haN) rfl
        unfold rlo at hr
        unfold wX12_ordersOn_34
        rw [if_neg (by rw [zle, hFN.2.2.1, zo (by omega)]; omega)]
        have hbit : bitP x2 (Int32.ofNat j) ↔ j ∈ pre := (bitP_bt (x := x2) (k := j) (by omega)).trans (h2 j (by omega))
        refine tX12_isIn (ifz (fun c => ?_) (fun c => ?_))
        · rw [hbit] at c
          rw [if_neg (show ¬ skM pre j = true by unfold skM; rw [decide_eq_true_iff]; exact c)] at hr
          refine ⟨hin1, ?_⟩
          rw [hn1]
          have hau : ag [81] [] N (u2 N 81 pre.length (Int32.ofNat j)) := agu ag.rf (by simp) (by decide)
          have e81 : ∀ i, (u2 N 81 pre.length (Int32.ofNat j)) 81 i = if i = pre.length then Int32.ofNat j else N 81 i := fun i => by
            rw [u2_ap]
            by_cases e : i = pre.length
            · rw [if_pos ⟨rfl, e⟩, if_pos e]
            · rw [if_neg (fun z => e z.2), if_neg e]
          refine ih (pre ++ [j]) S' _ _ _ _ (by rw [List.length_append]; simp; omega) (fun n hn => ?_) (haN.ml hau) ?_ (btN_or h2 (by omega)) (fun i hi => ?_) (hKN.ag hau rfl rfl) (fun N3 ha3 h81' hK3 => ?_)
          · rcases List.mem_append.mp hn with z | z
            · exact hpre n z
            · have := List.mem_singleton.mp z; omega
          · rw [zadd (by rw [h1, z1]; omega) (by rw [h1, z1]; omega), h1, z1, List.length_append]; simp
          · rw [List.length_append] at hi
            simp only [List.length_cons, List.length_nil] at hi
            rw [e81 i, getD_snoc' (by omega)]
            by_cases e : i = pre.length
            · rw [if_pos e, if_neg (by omega), zo (by omega)]
            · rw [if_neg e, if_pos (by omega), hN81 i (by omega)]; exact h81 i (by omega)
          · have hl1 : (pre ++ [j]).length = pre.length + 1 := by simp
            rw [hl1] at h81'
            rw [zsucc]
            refine ihq (j + 1) N3 _ (by omega) ha3 (fun i hi => ?_) hK3 hr
            rw [h81' i (by omega), e81 i, if_neg (by omega)]
            exact hN81 i hi
        · rw [hbit] at c
          rw [if_pos (show skM pre j = true by unfold skM; exact decide_eq_true c)] at hr
          rw [zsucc]
          exact ihq (j + 1) N S' (by omega) haN hN81 hKN hr
    exact ⟨_, loop gn 0 J S (by omega) haJ (fun _ _ => rfl) hK hRd⟩
theorem tX8_found {x : Int32} {i : Nat} (hx : x.toInt = i) (hi : i < 7) (h : Q (I 50 i) I L) : cI G l mX8_found (d + 1) [.ref 37, .int x] I L Q := by
  refine wX8_found_ok ?_
  unfold wX8_found
  have e : x.toNatClampNeg = i := by rw [znat]; omega
  rw [if_neg (by rw [zlt, z0]; omega), if_neg (by rw [zle, zl_7]; omega)]
  refine ⟨by rw [zin]; omega, ri ?_⟩
  rw [e]
  exact h
theorem tX8_begin {x : Int32} (hF : Fr G l F g p I) (h : ∀ I', ag [37, 38, 39, 40] [] I I' → Ic 38 I' (p 0) (dwk I) (I 25 2).toInt → I' 37 6 = x → Qv I' L) : cV G l mX8_begin (d + 3) [.ref 37, .ref 25, .int x] I L Qv := by
  have i25 : isIce 25 := by unfold isIce; decide
  have i38 : isIce 38 := by unfold isIce; decide
  refine wX8_begin_ok i25 (Q := fun v I' L' => v = none ∧ Qv I' L') ?_
  unfold wX8_begin
  refine tX3_follow i38 i25 (by decide) hF Ic_deed (fun J1 ha1 hJ1 => ⟨rfl, ?_⟩)
  have hau : ag [37] [] J1 (u2 J1 37 6 x) := agu ag.rf (by simp) (by decide)
  exact h _ (ag.th ha1 hau) (hJ1.ag i38 hau (by decide) (by decide) (by decide)) u2e
theorem T_all {a b : Int32} (h : Inv (LRl G l) k I L) (hk5 : k ≤ 512) (hk : ∀ r I' L', Inv (LRl G l) (k + 1) I' L' → K r r I' L') :
    cI G l mX11_all (d + 129) [.ref 0, .int a, .int b] I L (fun r I1 L1 => cI G l mX12_all (d + 129) [.ref 71, .int a, .int b] I1 L1 (fun r' I2 L2 => K r r' I2 L2)) := by
  obtain ⟨F, p, hF, hp⟩ := h.fr
  obtain ⟨hP, hC, hI, hT, hR, hD, hG, hA, hS, hM⟩ := id h
  have hz := dz h hk5
  have hmn := dmn h hk5
  have hg := hF.1
  have i25 : isIce 25 := by unfold isIce; decide
  have i38 : isIce 38 := by unfold isIce; decide
  have hgn : (I 1 1).toInt = ((I 1 1).toInt.toNat : Nat) := by omega
  generalize (I 1 1).toInt.toNat = gn at hgn
  have hpos : 0 ≤ (rf (lfA F p I a.toInt.toNat) skM gn gn [] (-1, [])).1 := by
    have := rf_range (leaf := lfA F p I a.toInt.toNat) (b := gn) (fun pre S => by
      unfold lfA
      by_cases q : S.1 < (TO F p I a.toInt.toNat pre).1
      · rw [if_pos q]; simp only; omega
      · rw [if_neg q]; omega) (fun pre S => by
      have := TO_b (F := F) (p := p) (I := I) (way := a.toInt.toNat) (pre := pre)
      unfold lfA
      by_cases q : S.1 < (TO F p I a.toInt.toNat pre).1
      · rw [if_pos q]; simp only; omega
      · rw [if_neg q]; omega) gn 0 (-1, []) (by omega)
    exact this
  refine scr2 h (if (0 ≤ a.toInt ∧ a.toInt < 3) ∧ -1 ≤ b.toInt then (if (gn : Int) ≤ b.toInt then -2 else if b.toInt < 0 then (rf (lfA F p I a.toInt.toNat) skM gn gn [] (-1, [])).1 else ((rf (lfA F p I a.toInt.toNat) skM gn gn [] (-1, [])).2.getD b.toInt.toNat 0 : Nat)) else -1) (fun Q hq => ?_) (fun I1 ha Q hq => ?_) hk
  · refine wX11_all_ok ?_
    unfold wX11_all
    refine tX11_isWay (ifz (fun c1 => ri (hq _ _ (by rw [if_neg (fun q => c1 q.1)]; rfl) ag.rf)) (fun c1 => ife (fun c2 => ife (fun c3 => ?_) (fun c3 => ri (hq _ _ ?_ ag.rf))) (fun c2 => ri (hq _ _ ?_ ag.rf))))
    · rw [zle, zl_m1] at c2
      rw [zlt, hgn] at c3
      rw [if_pos ⟨c1, c2⟩, if_neg (by omega)] at hq
      have haw : a.toInt = (a.toInt.toNat : Nat) := by omega
      have hw3 : a.toInt.toNat < 3 := by omega
      generalize a.toInt.toNat = way at *
      refine wX8_mostOver_ok i25 ?_
      unfold wX8_mostOver
      refine tX8_begin hF (fun J1 ha1 hJ1 h6 => ?_)
      have hb1 : ag scC [] I J1 := ha1.up rfl rfl
      have hd : d + 127 = (d + 120 - gn) + gn + 7 := by omega
      rw [hd]
      refine tX8_tryOrders (d := d + 120 - gn) (way := way) hF hz (by omega) hgn haw hw3 gn [] (-1, []) J1 0 0 0 _ (by simp) (fun n hn => absurd hn (by simp)) hb1 hJ1 rfl (fun t ht => by rw [bt_0]; simp) rfl (fun i hi => absurd hi (by simp)) ⟨by rw [h6]; rfl, fun z => absurd rfl z⟩ (fun J2 ha2 _ _ _ hK2 => ?_)
      refine ⟨_, rfl, ?_⟩
      refine ife (fun q => ?_) (fun q => ri (hq _ _ ?_ ha2))
      · rw [zle, z0] at q
        rw [if_neg (by omega)] at hq
        exact tX8_found (i := b.toInt.toNat) (by omega) (by omega) (ri (hq _ _ (hK2.2 (by omega) _ (by omega)) ha2))
      · rw [zle, z0] at q
        rw [if_pos (by omega)]; exact hK2.1
    · rw [zle, zl_m1] at c2
      rw [zlt, hgn] at c3
      rw [if_pos ⟨c1, c2⟩, if_pos (by omega)]; rfl
    · rw [zle, zl_m1] at c2
      rw [if_neg (fun q => c2 q.2)]; rfl
  · refine wX12_all_ok ?_
    unfold wX12_all
    refine tX12_isWay (ifz (fun c1 => ri (hq _ _ (by rw [z64] at c1; rw [if_neg (fun q => c1 q.1)]; rfl) ag.rf)) (fun c1 => ife (fun c2 => ?_) (fun c2 => ri (hq _ _ ?_ ag.rf))))
    · rw [z64] at c1
      rw [zle, zl_m1] at c2
      rw [if_pos ⟨c1, c2⟩] at hq
      have haw : a.toInt = (a.toInt.toNat : Nat) := by omega
      have hw3 : a.toInt.toNat < 3 := by omega
      generalize a.toInt.toNat = way at *
      have hm1 : ag scM tcM I1 (u2 I1 71 28 (-1)) := agm ag.rf (by decide)
      have hd : d + 128 = (d + 22 - gn) + gn + 106 := by omega
      rw [hd]
      refine tX12_ordersOn (d := d + 22 - gn) h hF ha hz (by omega) hgn haw hw3 gn [] (-1, []) _ 0 0 _ (by simp) (fun n hn => absurd hn (by simp)) hm1 rfl (fun t ht => by rw [bt_0]; simp) (fun i hi => absurd hi (by simp)) ⟨by rw [u2e]; rfl, fun z => absurd rfl z⟩ (fun J2 ha2 _ hK2 => ?_)
      have hF2 := hF.ag (ag.th (S := scC ++ scM) (T := tcM) ha ha2) rfl
      refine ife (fun q => ife (fun q2 => ri (hq _ _ ?_ ha2)) (fun q2 => ⟨?_, ri (hq _ _ ?_ ha2)⟩)) (fun q => ri (hq _ _ ?_ ha2))
      · rw [zle, z0] at q
        rw [zle, hF2.2.2.1, hgn] at q2
        rw [if_pos q2]; rfl
      · rw [zle, z0] at q
        rw [zle, hF2.2.2.1, hgn] at q2
        rw [zin]; omega
      · rw [zle, z0] at q
        rw [zle, hF2.2.2.1, hgn] at q2
        rw [if_neg q2, if_neg (by omega), znat]
        exact hK2.2 (by omega) _ (by omega)
      · rw [zle, z0] at q
        rw [if_neg (by omega), if_pos (by omega)]
        exact hK2.1
    · rw [zle, zl_m1] at c2
      rw [if_neg (fun q => c2 q.2)]; rfl
end AL

/-! rule -/
def btN (x : Int32) (S : Nat → Prop) : Prop := ∀ j, j < 8 → (bt x j = true ↔ S j)
def bstR (f : Nat → Int) : Nat → Nat → Int → Int → Int
  | 0, _, b, _ => b
  | m + 1, r, b, v => if f r > v then bstR f m (r + 1) r (f r) else bstR f m (r + 1) b v
section R2
variable {G : jG} {l : Launch} {d k : Nat} {F : Option lF} {g : Int} {p : Nat → Nat → Int} {I : jS} {L : jL} {st wk : Nat → Int} {mn : Int} {Q : Int32 → jS → jL → Prop} {Qv : jS → jL → Prop} {K : Int32 → Int32 → jS → jL → Prop}
/-- the reference walks the order that it holds -/
theorem tX12_overOrder {x : Int32} {way gn : Nat} {o : Nat → Nat} {I1 J : jS} (h0 : Inv (LRl G l) k I L) (hF : Fr G l F (I 1 1).toInt p I) (ha : ag scC [] I I1) (haJ : ag scM tcM I1 J) (hz : zok (dwk I) (I 25 2).toInt) (hmn : (I 25 2).toInt ≤ 100000) (hgn : (I 1 1).toInt = gn) (hx : x.toInt = way) (hw : way < 3) (ho : ∀ i, i < gn → (J 81 i).toInt = o i) (hog : ∀ i, i < gn → o i < gn)
    (h : ∀ (r : Int32) J', ag [79, 80] [13, 14, 15, 16, 17, 20, 24] J J' → r.toInt = (zL F p (p 0) way ((List.range' 0 gn).map o) (0, dwk I, (I 25 2).toInt)).1 → Q r J' L) : cI G l mX12_overOrder (d + 104) [.ref 71, .int x] J L Q := by
  have hg := hF.1
  refine wX12_overOrder_ok ?_
  unfold wX12_overOrder
  refine tX12_begins1 ?_
  have hall : ag (scC ++ scM) tcM I J := ha.th haJ
  have hIm := Im_beg (G := G) (l := l) (p := p) h0 hall
  have hb := ag_begin (J := J)
  generalize u2 (cpk J 80 76 24) 71 20 (J 71 8) = M0 at *
  generalize hR : zL F p (p 0) way ((List.range' 0 gn).map o) (0, dwk I, (I 25 2).toInt) = R at h
  have key : ∀ (m i : Nat) M (S : zT) (c : Int32), i + m = gn → ag [79, 80] [13, 14, 15, 16, 17, 20, 24] J M → Im M p (p 0) S.2.1 S.2.2 → c.toInt = S.1 → zTok (I 25 2).toInt i S → zL F p (p 0) way ((List.range' i m).map o) S = R → wX12_overOrder_8 G l (d + 103) (fun v I' L' => ∃ r, v = some (.int r) ∧ Q r I' L') (m + 1) x c (Int32.ofNat i) M L := by
    intro m
    induction m with
    | zero =>
      intro i M S c hi haM hM hc hS hr
      have hFM := hF.ag (ag.th (S := scC ++ scM) (T := tcM) hall haM) rfl
      have hr' : S = R := hr
      subst hr'
      unfold wX12_overOrder_8
      rw [if_pos (by rw [zle, hFM.2.2.1, zo (by omega)]; omega)]
      exact ri (h _ _ haM hc)
    | succ m ih =>
      intro i M S c hi haM hM hc hS hr
      have hFM := hF.ag (ag.th (S := scC ++ scM) (T := tcM) hall haM) rfl
      have hog' := hog i (by omega)
      unfold wX12_overOrder_8
      rw [if_neg (by rw [zle, hFM.2.2.1, zo (by omega)]; omega)]
      refine ⟨by rw [zin, zo (by omega)]; omega, ?_⟩
      rw [zon (by omega), zsucc]
      have e81 : M 81 = J 81 := haM.c 81
      have hS1 := hS.1
      refine tX12_crosses hFM hM ⟨hS.2.1, hS.2.2.1, by have := hS.2.2.2; omega⟩ (zst0 hF) (n := o i) (by rw [e81]; exact ho i (by omega)) (by omega) hx hw (fun M2 ha2 hM2 _ => ?_)
      have haM2 : ag [79, 80] [13, 14, 15, 16, 17, 20, 24] J M2 := haM.th ha2
      have e : List.range' i (m + 1) = i :: List.range' (i + 1) m := rfl
      rw [e, List.map_cons] at hr
      have hok := zL_ok (st := p 0) hF (B := (I 25 2).toInt) ⟨hz.2.1, hmn⟩ hw [o i] i S (by simp; omega) (fun n hn => by simp at hn; omega) hS
      rw [show i + [o i].length = i + 1 from rfl] at hok
      refine ifz (fun q => ih (i + 1) M2 (zL F p (p 0) way [o i] S) _ (by omega) haM2 hM2 ?_ hok hr) (fun q => ih (i + 1) M2 (zL F p (p 0) way [o i] S) _ (by omega) haM2 hM2 ?_ hok hr)
      · have : (zL F p (p 0) way [o i] S).1 = S.1 + (if (zcross F p (p 0) way (o i) 0 false S.2.1 S.2.2).1 = -1 then 1 else 0) := rfl
        rw [this, if_neg q, Int32.add_zero, hc]; omega
      · have : (zL F p (p 0) way [o i] S).1 = S.1 + (if (zcross F p (p 0) way (o i) 0 false S.2.1 S.2.2).1 = -1 then 1 else 0) := rfl
        rw [this, if_pos q, zadd (by rw [z1, hc]; omega) (by rw [z1, hc]; omega), z1, hc]
  exact ⟨_, key gn 0 M0 (0, dwk I, (I 25 2).toInt) 0 (by omega) (hb.up rfl rfl) hIm rfl ⟨by simp, hz.1, hz.2.1, by simp⟩ hR⟩
/-- the class's order by a rule, walked -/
def ruV (F : Option lF) (p : Nat → Nat → Int) (I : jS) (way gn : Nat) (o : Nat → Nat) : Int := (zL F p (p 0) way ((List.range' 0 gn).map o) (0, dwk I, (I 25 2).toInt)).1
theorem ruV_cg {way gn : Nat} {o o' : Nat → Nat} (h : ∀ i, i < gn → o i = o' i) : ruV F p I way gn o = ruV F p I way gn o' := by
  unfold ruV
  have : (List.range' 0 gn).map o = (List.range' 0 gn).map o' := List.map_congr_left (fun i hi => h i (by simpa using (List.mem_range'_1.mp hi).2))
  rw [this]
theorem tX11_overByRule {x y : Int32} {way r gn : Nat} {o : Nat → Nat} {J : jS} (hF : Fr G l F g p I) (ha : ag scC [] I J) (hz : zok (dwk I) (I 25 2).toInt) (hmn : (I 25 2).toInt ≤ 100000) (hgn : g = gn) (hx : x.toInt = way) (hw : way < 3) (hy : y.toInt = r) (hS : SO (rk p r) o gn)
    (h : ∀ (v : Int32) J', ag scC [] I J' → v.toInt = ruV F p I way gn o → Q v J' L) : cI G l mX11_overByRule (d + 7) [.ref 0, .int x, .int y] J L Q := by
  have i25 : isIce 25 := by unfold isIce; decide
  have i32 : isIce 32 := by unfold isIce; decide
  refine wX11_overByRule_ok ?_
  unfold wX11_overByRule
  refine tX10_byRule (hF.ag ha rfl) hgn hy (fun J1 o1 ha1 hO1 hS1 => ?_)
  have hb1 : ag scC [] I J1 := ha.cl ha1
  refine tX3_follow i32 i25 (by decide) (hF.ag hb1 rfl) (Ic_deed.ag i25 hb1 (by decide) (by decide) (by decide)) (fun J2 ha2 hJ2 => ?_)
  have hb2 : ag scC [] I J2 := hb1.cl ha2
  refine tX10_walk (hF.ag hb2 rfl) (hO1.ag ha2 rfl rfl) (fun i hi => by have := hS1.1 i hi; omega) hJ2 hz hmn (zst0 hF) hx hw (fun J3 ha3 hO3 h6 _ hJ3 => ri (h _ _ (hb2.cl ha3) ?_))
  rw [h6]
  have e1 := congrArg Prod.fst (zrun_L (F := F) (p := p) (st := p 0) (way := way) (o := o1) gn 0 (0, -2, dwk I, (I 25 2).toInt))
  simp only at e1
  rw [e1]
  exact ruV_cg (SO_one hS1 hS)
/-- the reference's order by a rule, walked -/
theorem tX12_overByRule {x y : Int32} {way r gn : Nat} {o : Nat → Nat} {I1 J : jS} (h0 : Inv (LRl G l) k I L) (hF : Fr G l F (I 1 1).toInt p I) (ha : ag scC [] I I1) (haJ : ag scM tcM I1 J) (hz : zok (dwk I) (I 25 2).toInt) (hmn : (I 25 2).toInt ≤ 100000) (hgn : (I 1 1).toInt = gn) (hx : x.toInt = way) (hw : way < 3) (hy : y.toInt = r) (hS : SO (rk p r) o gn)
    (h : ∀ (v : Int32) J', ag scM tcM I1 J' → v.toInt = ruV F p I way gn o → Q v J' L) : cI G l mX12_overByRule (d + 105) [.ref 71, .int x, .int y] J L Q := by
  have hg := hF.1
  have nlt : ∀ x, ¬ ltK (rk p r) x x := fun x q => by unfold ltK at q; omega
  have oinj : ∀ i j, i < gn → j < gn → o i = o j → i = j := fun i j hi hj e => by
    by_cases q : i < j
    · have := hS.2.2 i j q hj
      rw [e] at this
      exact absurd this (nlt _)
    · by_cases q2 : j < i
      · have := hS.2.2 j i q2 hi
        rw [e] at this
        exact absurd this (nlt _)
      · omega
  refine wX12_overByRule_ok ?_
  unfold wX12_overByRule
  have key : ∀ (m i : Nat) M (u : Int32), i + m = gn → ag scM tcM I1 M → (∀ t, t < i → (M 81 t).toInt = o t) → btN u (fun x => ∃ t, t < i ∧ o t = x) → wX12_overByRule_5 G l (d + 104) (fun v I' L' => ∃ r, v = some (.int r) ∧ Q r I' L') (m + 1) x y u (Int32.ofNat i) M L := by
    intro m
    induction m with
    | zero =>
      intro i M u hi haM ho hu
      have : i = gn := by omega
      subst this
      have hall : ag (scC ++ scM) tcM I M := ha.th haM
      have hFM := hF.ag hall rfl
      unfold wX12_overByRule_5
      rw [if_pos (by rw [zle, hFM.2.2.1, zo (by omega)]; omega)]
      exact tX12_overOrder (d := d) h0 hF ha haM hz hmn hgn hx hw ho hS.1 (fun v J' haJ' hv => ri (h _ _ (haM.ml haJ') hv))
    | succ m ih =>
      intro i M u hi haM ho hu
      have hall : ag (scC ++ scM) tcM I M := ha.th haM
      have hFM := hF.ag hall rfl
      unfold wX12_overByRule_5
      rw [if_neg (by rw [zle, hFM.2.2.1, zo (by omega)]; omega)]
      have isU : ∀ j, j < gn → ((∃ t, t < i ∧ o t = j) ↔ bt u j = true) := fun j hj => (hu j (by omega)).symm
      -- the next
      have inner : ∀ (q j : Nat) (nx : Int32), j + q = gn → ((nx = -1 ∧ ∀ x, x < j → ∃ t, t < i ∧ o t = x) ∨ (∃ n, nx.toInt = (n : Nat) ∧ n < j ∧ (¬ ∃ t, t < i ∧ o t = n) ∧ ∀ x, x < j → (¬ ∃ t, t < i ∧ o t = x) → x = n ∨ ltK (rk p r) n x)) → wX12_overByRule_20 G l (d + 104) (fun z0 z1 z2 z3 I L => wX12_overByRule_5 G l (d + 104) (fun v I' L' => ∃ r, v = some (.int r) ∧ Q r I' L') (m + 1) z0 z1 z2 z3 I L) (fun v I' L' => ∃ r, v = some (.int r) ∧ Q r I' L') (q + 1) x y u (Int32.ofNat i) nx (Int32.ofNat j) M L := by
        intro q
        induction q with
        | zero =>
          intro j nx hj hn
          have : j = gn := by omega
          subst this
          unfold wX12_overByRule_20
          rw [if_pos (by rw [zle, hFM.2.2.1, zo (by omega)]; omega)]
          refine ⟨by rw [zin, zo (by omega)]; omega, ?_⟩
          rw [zon (by omega)]
          have oi := hS.1 i (by omega)
          have fresh : ¬ ∃ t, t < i ∧ o t = o i := fun z => by
            obtain ⟨t, ht, e⟩ := z
            have := oinj t i (by omega) (by omega) e
            omega
          have hnx : nx = Int32.ofNat (o i) := by
            rcases hn with ⟨-, z⟩ | ⟨n, e, hnj, hf, hmin⟩
            · exact absurd (z (o i) oi) fresh
            · have : n = o i := by
                obtain ⟨t, ht, et⟩ := hS.2.1 n hnj
                have ti : i ≤ t := by
                  by_cases q : t < i
                  · exact absurd ⟨t, q, et⟩ hf
                  · omega
                by_cases te : t = i
                · rw [← et, te]
                · have a := hS.2.2 i t (by omega) ht
                  rw [et] at a
                  rcases hmin (o i) oi fresh with b | b
                  · exact b.symm
                  · unfold ltK at a b; omega
              rw [← this]
              exact zof e
          rw [hnx, zsucc]
          refine ih (i + 1) _ _ (by omega) (agu haM (by decide) (by decide)) (fun t ht => ?_) (fun j' hj' => ?_)
          · rw [u2_ap]
            by_cases e : t = i
            · rw [if_pos ⟨rfl, e⟩, zo (by omega), e]
            · rw [if_neg (fun z => e z.2)]; exact ho t (by omega)
          · rw [bt_or, Bool.or_eq_true, bt_shl (by omega) hj', decide_eq_true_iff, hu j' hj']
            constructor
            · rintro (⟨t, ht, e⟩ | e)
              · exact ⟨t, by omega, e⟩
              · exact ⟨i, by omega, e.symm⟩
            · rintro ⟨t, ht, e⟩
              by_cases q : t = i
              · rw [q] at e; exact Or.inr e.symm
              · exact Or.inl ⟨t, by omega, e⟩
        | succ q ihq =>
          intro j nx hj hn
          unfold wX12_overByRule_20
          rw [if_neg (by rw [zle, hFM.2.2.1, zo (by omega)]; omega)]
          refine tX12_isIn (ifz (fun c => ?_) (fun c => ?_))
          · rw [bitP_bt (by omega), ← isU j (by omega)] at c
            rcases hn with ⟨e, z⟩ | ⟨n, e, hnj, hf, hmin⟩
            · rw [e, if_pos (by decide)]
              unfold wX12_overByRule_60
              rw [zsucc]
              refine ihq (j + 1) _ (by omega) (Or.inr ⟨j, zo (by omega), by omega, c, fun x hx hxf => ?_⟩)
              by_cases q : x = j
              · exact Or.inl q
              · exact absurd (z x (by omega)) hxf
            · rw [if_neg (by rw [zlt, z0, e]; omega)]
              refine tX12_rankOf hFM (zo (k := j) (by omega)) (by omega) hy (fun r3 h3 => tX12_rankOf hFM e (by omega) hy (fun r4 h4 => ife (fun c2 => ?_) (fun c2 => ?_)))
              · rw [zle, h3, h4] at c2
                rw [zsucc]
                refine ihq (j + 1) _ (by omega) (Or.inr ⟨n, e, by omega, hf, fun x hx hxf => ?_⟩)
                by_cases q : x = j
                · refine Or.inr ?_
                  rw [q]; unfold ltK; omega
                · exact hmin x (by omega) hxf
              · rw [zle, h3, h4] at c2
                unfold wX12_overByRule_60
                rw [zsucc]
                refine ihq (j + 1) _ (by omega) (Or.inr ⟨j, zo (by omega), by omega, c, fun x hx hxf => ?_⟩)
                by_cases q : x = j
                · exact Or.inl q
                · refine Or.inr ?_
                  rcases hmin x (by omega) hxf with b | b
                  · rw [b]; unfold ltK; omega
                  · unfold ltK at b ⊢; omega
          · rw [bitP_bt (by omega), ← isU j (by omega)] at c
            rw [zsucc]
            refine ihq (j + 1) nx (by omega) ?_
            rcases hn with ⟨e, z⟩ | ⟨n, e, hnj, hf, hmin⟩
            · refine Or.inl ⟨e, fun x hx => ?_⟩
              by_cases q : x = j
              · rw [q]; exact c
              · exact z x (by omega)
            · refine Or.inr ⟨n, e, by omega, hf, fun x hx hxf => ?_⟩
              by_cases q : x = j
              · rw [q] at hxf; exact absurd c hxf
              · exact hmin x (by omega) hxf
      exact ⟨_, inner gn 0 (-1) (by omega) (Or.inl ⟨rfl, fun x hx => by omega⟩)⟩
  exact ⟨_, key gn 0 J 0 (by omega) haJ (fun t ht => by omega) (fun j hj => by rw [bt_0]; exact ⟨fun z => absurd z (by decide), fun ⟨t, ht, _⟩ => by omega⟩)⟩
theorem T_rule {a b : Int32} (h : Inv (LRl G l) k I L) (hk5 : k ≤ 512) (hk : ∀ r I' L', Inv (LRl G l) (k + 1) I' L' → K r r I' L') :
    cI G l mX11_rule (d + 109) [.ref 0, .int a, .int b] I L (fun r I1 L1 => cI G l mX12_rule (d + 109) [.ref 71, .int a, .int b] I1 L1 (fun r' I2 L2 => K r r' I2 L2)) := by
  obtain ⟨F, p, hF, hp⟩ := h.fr
  obtain ⟨hP, hC, hI, hT, hR, hD, hG, hA, hS, hM⟩ := id h
  have hz := dz h hk5
  have hmn := dmn h hk5
  have hg := hF.1
  have hgn : (I 1 1).toInt = ((I 1 1).toInt.toNat : Nat) := by omega
  generalize (I 1 1).toInt.toNat = gn at hgn
  obtain ⟨o, ho⟩ : ∃ o : Nat → Nat → Nat, ∀ r, SO (rk p r) (o r) gn := ⟨fun r => Classical.choose (SO_ex (rk p r) gn), fun r => Classical.choose_spec (SO_ex (rk p r) gn)⟩
  have hv0 : ∀ (hw : 0 ≤ a.toInt ∧ a.toInt < 3) r, 0 ≤ ruV F p I a.toInt.toNat gn (o r) ∧ ruV F p I a.toInt.toNat gn (o r) ≤ 100 := fun hw r => by
    have := (zL_ok (st := p 0) (way := a.toInt.toNat) hF (B := (I 25 2).toInt) ⟨hz.2.1, by omega⟩ (by omega) ((List.range' 0 gn).map (o r)) 0 (0, dwk I, (I 25 2).toInt) (by simp; omega) (fun n hn => by
      obtain ⟨i, hi, e⟩ := List.mem_map.mp hn
      have := (ho r).1 i (by simpa using (List.mem_range'_1.mp hi).2)
      omega) ⟨by simp, hz.1, hz.2.1, by simp⟩).1
    rw [List.length_map, List.length_range'] at this
    unfold ruV
    omega
  refine scr2 h (if (0 ≤ a.toInt ∧ a.toInt < 3) ∧ (0 ≤ b.toInt ∧ b.toInt ≤ 4) then (if b.toInt = 4 then bstR (fun r => ruV F p I a.toInt.toNat gn (o r)) 3 1 0 (ruV F p I a.toInt.toNat gn (o 0)) else ruV F p I a.toInt.toNat gn (o b.toInt.toNat)) else -1) (fun Q hq => ?_) (fun I1 ha Q hq => ?_) hk
  · refine wX11_rule_ok ?_
    unfold wX11_rule
    refine tX11_isWay (ifz (fun c1 => ri (hq _ _ (by rw [if_neg (fun q => c1 q.1)]; rfl) ag.rf)) (fun c1 => ife (fun c2 => ri (hq _ _ ?_ ag.rf)) (fun c2 => ife (fun c3 => ?_) (fun c3 => ri (hq _ _ ?_ ag.rf)))))
    · rw [zlt, z0] at c2; rw [if_neg (by omega)]; rfl
    · rw [zlt, z0] at c2
      rw [zle, zl_4] at c3
      rw [if_pos ⟨c1, by omega, c3⟩] at hq
      have hv := hv0 c1
      have haw : a.toInt = (a.toInt.toNat : Nat) := by omega
      have hw3 : a.toInt.toNat < 3 := by omega
      generalize a.toInt.toNat = way at *
      refine ife (fun c4 => ?_) (fun c4 => ?_)
      · rw [zle, zl_4] at c4
        rw [if_pos (by omega)] at hq
        refine tX11_overByRule (d := d + 101) hF ag.rf hz (by omega) hgn haw hw3 (r := 0) rfl (ho 0) (fun v0 J0 ha0 hv0' => ?_)
        generalize hRd : bstR (fun r => ruV F p I way gn (o r)) 3 1 0 (ruV F p I way gn (o 0)) = R at hq
        have key : ∀ (m r : Nat) J (bz vz : Int) (x3 x4 : Int32), r + m = 4 → 1 ≤ r → ag scC [] I J → x3.toInt = bz → x4.toInt = vz → bstR (fun r => ruV F p I way gn (o r)) m r bz vz = R → wX11_rule_43 G l (d + 108) (fun v I' L' => ∃ r, v = some (.int r) ∧ Q r I' L') (m + 1) a x3 x4 (Int32.ofNat r) J L := by
          intro m
          induction m with
          | zero =>
            intro r J bz vz x3 x4 hr hr1 haJ h3 h4 he
            unfold wX11_rule_43
            rw [if_pos (by rw [zle, zl_4, zo (by omega)]; omega)]
            exact ri (hq _ _ (by rw [h3, ← he]; rfl) haJ)
          | succ m ih =>
            intro r J bz vz x3 x4 hr hr1 haJ h3 h4 he
            unfold wX11_rule_43
            rw [if_neg (by rw [zle, zl_4, zo (by omega)]; omega)]
            refine tX11_overByRule (d := d + 101) hF haJ hz (by omega) hgn haw hw3 (zo (k := r) (by omega)) (ho r) (fun v J2 ha2 hv2 => ?_)
            unfold bstR at he
            rw [zsucc]
            refine ife (fun q => ?_) (fun q => ?_)
            · rw [zle, hv2, h4] at q
              rw [if_neg (by omega)] at he
              exact ih (r + 1) J2 bz vz x3 x4 (by omega) (by omega) ha2 h3 h4 he
            · rw [zle, hv2, h4] at q
              rw [if_pos (by omega)] at he
              exact ih (r + 1) J2 r _ (Int32.ofNat r) v (by omega) (by omega) ha2 (zo (by omega)) hv2 he
        exact ⟨_, key 3 1 J0 0 _ 0 v0 (by omega) (by omega) ha0 rfl hv0' hRd⟩
      · rw [zle, zl_4] at c4
        rw [if_neg (by omega)] at hq
        exact tX11_overByRule (d := d + 101) hF ag.rf hz (by omega) hgn haw hw3 (r := b.toInt.toNat) (by omega) (ho _) (fun v J2 ha2 hv2 => ri (hq _ _ hv2 ha2))
    · rw [zle, zl_4] at c3; rw [if_neg (by omega)]; rfl
  · refine wX12_rule_ok ?_
    unfold wX12_rule
    refine tX12_isWay (ifz (fun c1 => ri (hq _ _ (by rw [z64] at c1; rw [if_neg (fun q => c1 q.1)]; rfl) ag.rf)) (fun c1 => tX12_win (a := 0) (b := 4) (by decide) (by decide) (ifz (fun c2 => ri (hq _ _ (by rw [if_neg (fun q => c2 q.2)]; rfl) ag.rf)) (fun c2 => ?_))))
    rw [z64] at c1
    rw [if_pos ⟨c1, c2⟩] at hq
    have hv := hv0 c1
    have haw : a.toInt = (a.toInt.toNat : Nat) := by omega
    have hw3 : a.toInt.toNat < 3 := by omega
    generalize a.toInt.toNat = way at *
    refine ife (fun c4 => ?_) (fun c4 => ?_)
    · rw [zle, zl_4] at c4
      rw [if_pos (by omega)] at hq
      generalize hRd : bstR (fun r => ruV F p I way gn (o r)) 3 1 0 (ruV F p I way gn (o 0)) = R at hq
      have key : ∀ (m r : Nat) J (bz vz : Int) (x3 x4 : Int32), r + m = 4 → ag scM tcM I1 J → x3.toInt = bz → x4.toInt = vz → bstR (fun r => ruV F p I way gn (o r)) m r bz vz = R → wX12_rule_42 G l (d + 108) (fun v I' L' => ∃ r, v = some (.int r) ∧ Q r I' L') (m + 1) a x3 x4 (Int32.ofNat r) J L := by
        intro m
        induction m with
        | zero =>
          intro r J bz vz x3 x4 hr haJ h3 h4 he
          unfold wX12_rule_42
          rw [if_pos (by rw [zle, zl_4, zo (by omega)]; omega)]
          exact ri (hq _ _ (by rw [h3, ← he]; rfl) haJ)
        | succ m ih =>
          intro r J bz vz x3 x4 hr haJ h3 h4 he
          unfold wX12_rule_42
          rw [if_neg (by rw [zle, zl_4, zo (by omega)]; omega)]
          refine tX12_overByRule (d := d + 3) h hF ha haJ hz (by omega) hgn haw hw3 (zo (k := r) (by omega)) (ho r) (fun v J2 ha2 hv2 => ?_)
          unfold bstR at he
          unfold wX12_rule_70
          refine ife (fun q => ?_) (fun q => ?_)
          · rw [if_pos q, zsucc]
            rw [zle, hv2, h4] at q
            rw [if_neg (by omega)] at he
            exact ih (r + 1) J2 bz vz x3 x4 (by omega) ha2 h3 h4 he
          · rw [if_neg q, zsucc]
            rw [zle, hv2, h4] at q
            rw [if_pos (by omega)] at he
            exact ih (r + 1) J2 r _ (Int32.ofNat r) v (by omega) ha2 (zo (by omega)) hv2 he
      refine ⟨_, key 4 0 I1 0 (-1) 0 (-1) (by omega) ag.rf rfl rfl ?_⟩
      unfold bstR
      have := (hv 0).1
      rw [if_pos (by omega)]
      exact hRd
    · rw [zle, zl_4] at c4
      rw [if_neg (by omega)] at hq
      exact tX12_overByRule (d := d + 3) h hF ha ag.rf hz (by omega) hgn haw hw3 (r := b.toInt.toNat) (by omega) (ho _) (fun v J2 ha2 hv2 => ri (hq _ _ hv2 ha2))
end R2

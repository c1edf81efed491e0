/-! the reference asks its sets -/
section C7
variable {G : jG} {l : Launch} {d k : Nat} {F : Option lF} {g : Int} {p : Nat → Nat → Int} {I : jS} {L : jL} {st wk : Nat → Int} {mn : Int} {Q : Int32 → jS → jL → Prop} {QJ : Int64 → jS → jL → Prop} {Qv : jS → jL → Prop}
theorem tX12_asksGoes {x : Int32} {e : Nat} {J : jS} (hF : Fr G l F g p J) (hB : ByR J L e) (hx : x.toInt = e)
    (h : ∀ J', ag [84] [34] J J' → (J' 71 34).toInt = (rdN (shf8 L e) g (min 4 (J 59 e).toInt.toNat) 0 : Nat) → (∀ i, i < rdN (shf8 L e) g (min 4 (J 59 e).toInt.toNat) 0 → (J' 84 i).toInt = shf8 L e i) → Qv J' L) : cV G l mX12_asksGoes (d + 4) [.ref 71, .int x] J L Qv := by
  refine wX12_asksGoes_ok (Q := fun v I' L' => v = none ∧ Qv I' L') ?_
  unfold wX12_asksGoes
  have hle := rdN_le (f := shf8 L e) (g := g) (min 10 (J 59 e).toInt.toNat) 0
  have hmin : rdN (shf8 L e) g (min 4 (J 59 e).toInt.toNat) 0 = min 4 (rdN (shf8 L e) g (min 10 (J 59 e).toInt.toNat) 0) := by
    rw [rdN_min (min 4 (J 59 e).toInt.toNat) (min 10 (J 59 e).toInt.toNat) 0 (by omega)]
    omega
  have h59 := hB.2.2.2.2.1
  generalize hn4 : rdN (shf8 L e) g (min 4 (J 59 e).toInt.toNat) 0 = n4 at *
  have hN : ∀ M, ag [84] [34] J M → ∀ Q' : Int32 → jS → jL → Prop, (∀ r : Int32, r.toInt = (rdN (shf8 L e) g (min 10 (J 59 e).toInt.toNat) 0 : Nat) → Q' r M L) → cI G l mX12_orderedOf (d + 3) [.ref 71, .int x] M L Q' := fun M haM Q' hq => by
    refine tX12_orderedOf (hF.ag haM rfl) (hB.ag haM rfl) hx (fun r hr => hq r ?_)
    rw [haM.c 59] at hr
    exact hr
  generalize rdN (shf8 L e) g (min 10 (J 59 e).toInt.toNat) 0 = N at *
  have key : ∀ (m i : Nat) M, i + m = n4 → ag [84] [34] J M → (M 71 34).toInt = i → (∀ t, t < i → (M 84 t).toInt = shf8 L e t) → wX12_asksGoes_5 G l (d + 3) (fun v I' L' => v = none ∧ Qv I' L') (m + 1) x M L := by
    intro m
    induction m with
    | zero =>
      intro i M hi haM h34 h84
      have : i = n4 := by omega
      subst this
      unfold wX12_asksGoes_5
      refine ife (fun q => ⟨rfl, h M haM h34 h84⟩) (fun q => hN M haM _ (fun r hr => ?_))
      rw [zle, zl_4, h34] at q
      rw [if_pos (by rw [zle, hr, h34]; omega)]
      exact ⟨rfl, h M haM h34 h84⟩
    | succ m ih =>
      intro i M hi haM h34 h84
      unfold wX12_asksGoes_5
      rw [if_neg (by rw [zle, zl_4, h34]; omega)]
      refine hN M haM _ (fun r hr => ?_)
      rw [if_neg (by rw [zle, hr, h34]; omega)]
      refine tX12_goerAt (hB.ag haM rfl) hx h34 (by omega) (fun r2 h2 => ⟨by rw [zin, h34]; omega, ?_⟩)
      have en : (M 71 34).toNatClampNeg = i := by rw [znat, h34]; omega
      rw [en]
      refine ih (i + 1) _ (by omega) (agm (agu haM (by decide) (by decide)) (by decide)) ?_ (fun t ht => ?_)
      · rw [u2e, zadd (by rw [h34, z1]; omega) (by rw [h34, z1]; omega), h34, z1]; omega
      · rw [u2n (by decide), u2_ap]
        by_cases q : t = i
        · rw [if_pos ⟨rfl, q⟩, q]; exact h2
        · rw [if_neg (fun z => q z.2)]; exact h84 t (by omega)
  exact ⟨_, key n4 0 _ (by omega) (agm ag.rf (by decide)) (by rw [u2e]; rfl) (fun t ht => by omega)⟩
theorem b01_and {P P2 : Prop} [Decidable P] [Decidable P2] : b01 P &&& b01 P2 = b01 (P ∧ P2) := by
  by_cases h1 : P
  · by_cases h2 : P2
    · rw [b01_pos h1, b01_pos h2, b01_pos ⟨h1, h2⟩]; decide
    · rw [b01_pos h1, b01_neg h2, b01_neg (fun z => h2 z.2)]; decide
  · by_cases h2 : P2
    · rw [b01_neg h1, b01_pos h2, b01_neg (fun z => h1 z.1)]; decide
    · rw [b01_neg h1, b01_neg h2, b01_neg (fun z => h1 z.1)]; decide
theorem tX12_asksThin {x : Int32} {way n : Nat} {o : Nat → Nat} {I1 J : jS} (h0 : Inv (LRl G l) k I L) (hF : Fr G l F (I 1 1).toInt p I) (ha : ag scC [] I I1) (haJ : ag scM tcM I1 J) (hz : zok (dwk I) (I 25 2).toInt) (hmn : (I 25 2).toInt ≤ 100000) (hx : x.toInt = way) (hw : way < 3) (hn : n ≤ 4) (h34 : (J 71 34).toInt = n) (h84 : ∀ i, i < n → (J 84 i).toInt = o i) (hog : ∀ i, i < n → (o i : Int) < (I 1 1).toInt)
    (h : ∀ J', ag scM tcM I1 J' → (∀ T, T < 256 → J' 85 T = b01 (gO F p I way ((List.range' 0 n).map o) T = true)) → Qv J' L) : cV G l mX12_asksThin (d + 104) [.ref 71, .int x] J L Qv := by
  obtain ⟨hP, hC, hI, hT, hR, hD, hG, hA, hS, hM⟩ := id h0
  refine wX12_asksThin_ok (Q := fun v I' L' => v = none ∧ Qv I' L') ?_
  unfold wX12_asksThin
  have hgo : ∀ T, (zL F p (tst p way (fun k => T.testBit k)) way ((List.range' 0 n).map o) (0, dwk I, (I 25 2).toInt)).1 = n ↔ gO F p I way ((List.range' 0 n).map o) T = true := fun T => by
    have hq := zL_sq1 (F := F) (p := p) (st := tst p way (fun k => T.testBit k)) (way := way) ((List.range' 0 n).map o) (0, dwk I, (I 25 2).toInt)
    rw [List.length_map, List.length_range'] at hq
    have e0 : ((0 : Int), dwk I, (I 25 2).toInt).1 + (n : Int) = n := by simp
    rw [e0] at hq
    rw [hq]
    unfold gO hB
    rw [all8_t]
    constructor
    · intro z j hj
      have := z j hj
      rw [tst_at hj] at this
      exact this
    · intro z j hj
      rw [tst_at hj]
      exact z j hj
  have outer : ∀ (m T : Nat) M, T + m = 256 → ag scM (21 :: tcM) I1 M → M 71 22 = x → M 71 21 = Int32.ofNat T → M 71 34 = J 71 34 → M 84 = J 84 → (∀ t, t < T → M 85 t = b01 (gO F p I way ((List.range' 0 n).map o) t = true)) → wX12_asksThin_10 G l (d + 103) (fun v I' L' => v = none ∧ Qv I' L') (m + 1) x M L := by
    intro m
    induction m with
    | zero =>
      intro T M hT' haM h22 h21 h34' h84' h85
      have : T = 256 := by omega
      subst this
      unfold wX12_asksThin_10
      rw [h21, if_pos (by decide)]
      refine ⟨rfl, h _ ⟨fun q h1 h2 => by rw [u2_ne q h1]; exact haM.1 q h1 h2, fun i hi => ?_⟩ (fun t ht => by rw [u2n (by decide)]; exact h85 t ht)⟩
      by_cases q : i = 21
      · subst q
        rw [u2e, ha.m 21]; exact hM.1.symm
      · rw [u2i q]
        exact haM.2 i (by simp only [List.mem_cons]; exact fun z => z.elim q hi)
    | succ m ih =>
      intro T M hT' haM h22 h21 h34' h84' h85
      have hall : ag (scC ++ scM) (21 :: tcM) I M := ha.th haM
      unfold wX12_asksThin_10
      rw [h21, if_neg (by rw [zle, zl_256, zo (by omega)]; omega)]
      refine tX12_begins1 ?_
      have hab := ag_begin (J := M)
      have haM0 : ag scM (21 :: tcM) I1 (u2 (cpk M 80 76 24) 71 20 (M 71 8)) := haM.th hab
      have hIm0 : Im (u2 (cpk M 80 76 24) 71 20 (M 71 8)) p (tst p way (fun k => T.testBit k)) (dwk I) (I 25 2).toInt := by
        refine ⟨fun s hs => ?_, fun s hs => ?_, ?_⟩
        · have f23 : (u2 (cpk M 80 76 24) 71 20 (M 71 8)) 71 23 = -1 := by rw [u2i (by decide), cpk_ne (by decide), hall.m 23]; exact hM.2
          have f22 : (u2 (cpk M 80 76 24) 71 20 (M 71 8)) 71 22 = x := by rw [u2i (by decide), cpk_ne (by decide)]; exact h22
          have f21 : (u2 (cpk M 80 76 24) 71 20 (M 71 8)) 71 21 = Int32.ofNat T := by rw [u2i (by decide), cpk_ne (by decide)]; exact h21
          rw [f23, f22, f21]
          exact rst_t hx (fun t ht => bt_nat (by omega) ht)
        · rw [u2n (by decide), cpk_eq hs, hall.c 76, (hI.1 s hs).1]; rfl
        · rw [u2e, hall.m 8, hI.2.1]
      have g22 := (hab.m 22).trans h22
      have g21 := (hab.m 21).trans h21
      have g34 := (hab.m 34).trans h34'
      have g84 := (hab.c 84).trans h84'
      have g85 : ∀ t, t < T → (u2 (cpk M 80 76 24) 71 20 (M 71 8)) 85 t = b01 (gO F p I way ((List.range' 0 n).map o) t = true) := fun t ht => by rw [hab.c 85]; exact h85 t ht
      generalize u2 (cpk M 80 76 24) 71 20 (M 71 8) = M0 at *
      have run : ∀ (q i : Nat) N (S : zT) (x2 : Int32), i + q = n → ag scM (21 :: tcM) I1 N → Im N p (tst p way (fun k => T.testBit k)) S.2.1 S.2.2 → N 71 22 = x → N 71 21 = Int32.ofNat T → N 71 34 = J 71 34 → N 84 = J 84 → (∀ t, t < T → N 85 t = b01 (gO F p I way ((List.range' 0 n).map o) t = true)) → x2 = b01 (S.1 = (i : Int)) → zTok (I 25 2).toInt i S → (zL F p (tst p way (fun k => T.testBit k)) way ((List.range' i q).map o) S).1 = (zL F p (tst p way (fun k => T.testBit k)) way ((List.range' 0 n).map o) (0, dwk I, (I 25 2).toInt)).1 → wX12_asksThin_28 G l (d + 103) (fun z0 I L => wX12_asksThin_10 G l (d + 103) (fun v I' L' => v = none ∧ Qv I' L') (m + 1) z0 I L) (fun v I' L' => v = none ∧ Qv I' L') (q + 1) x x2 (Int32.ofNat i) N L := by
        intro q
        induction q with
        | zero =>
          intro i N S x2 hi haN hIN k22 k21 k34 k84 k85 hx2 hS hr
          have hin : i = n := by omega
          subst hin
          unfold wX12_asksThin_28
          rw [if_pos (by rw [zle, k34, h34, zo (by omega)]; omega)]
          have hr' : S.1 = (zL F p (tst p way (fun k => T.testBit k)) way ((List.range' 0 i).map o) (0, dwk I, (I 25 2).toInt)).1 := hr
          refine ⟨by rw [hx2]; exact b01_or, by rw [k21, zin, zo (by omega)]; omega, ?_⟩
          rw [k21, zon (by omega), zsucc]
          refine ih (T + 1) _ (by omega) (agm (agu haN (by decide) (by decide)) (by decide)) ?_ u2e ?_ ?_ (fun t ht => ?_)
          · rw [u2i (by decide), u2n (by decide)]; exact k22
          · rw [u2i (by decide), u2n (by decide)]; exact k34
          · rw [u2_ne _ (by decide), u2_ne _ (by decide)]; exact k84
          · rw [u2n (by decide), u2_ap]
            by_cases e : t = T
            · rw [if_pos ⟨rfl, e⟩, hx2, e, hr']
              exact b01_iff (hgo T)
            · rw [if_neg (fun z => e z.2)]; exact k85 t (by omega)
        | succ q ihq =>
          intro i N S x2 hi haN hIN k22 k21 k34 k84 k85 hx2 hS hr
          have hFN := hF.ag (ag.th (S := scC ++ scM) (T := 21 :: tcM) ha haN) rfl
          have hoi := hog i (by omega)
          have hS1 := hS.1
          unfold wX12_asksThin_28
          rw [if_neg (by rw [zle, k34, h34, zo (by omega)]; omega)]
          refine ⟨by rw [zin, zo (by omega)]; omega, ?_⟩
          rw [zon (by omega), k84, zsucc]
          refine tX12_crosses hFN hIN ⟨hS.2.1, hS.2.2.1, by have := hS.2.2.2; omega⟩ (tst_ok hF) (h84 i (by omega)) hoi hx hw (fun N2 ha2 hN2 _ => ?_)
          have e : List.range' i (q + 1) = i :: List.range' (i + 1) q := rfl
          rw [e, List.map_cons] at hr
          have hok := zL_ok (st := tst p way (fun k => T.testBit k)) hF (B := (I 25 2).toInt) ⟨hz.2.1, by omega⟩ hw [o i] i S (by simp; omega) (fun n hn => by simp at hn; omega) hS
          rw [show i + [o i].length = i + 1 from rfl] at hok
          have hst : (zL F p (tst p way (fun k => T.testBit k)) way [o i] S).1 = S.1 + (if (zcross F p (tst p way (fun k => T.testBit k)) way (o i) 0 false S.2.1 S.2.2).1 = -1 then 1 else 0) := rfl
          refine ihq (i + 1) N2 (zL F p (tst p way (fun k => T.testBit k)) way [o i] S) _ (by omega) (haN.th ha2) hN2 ((ha2.m 22).trans k22) ((ha2.m 21).trans k21) ((ha2.m 34).trans k34) ((ha2.c 84).trans k84) (fun t ht => by rw [ha2.c 85]; exact k85 t ht) ?_ hok hr
          rw [hx2, b01_and, hst]
          refine b01_iff ?_
          by_cases z : (zcross F p (tst p way (fun k => T.testBit k)) way (o i) 0 false S.2.1 S.2.2).1 = -1
          · rw [if_pos z]
            constructor
            · intro w; have := w.1; omega
            · intro w; exact ⟨by omega, z⟩
          · rw [if_neg z]
            constructor
            · intro w; exact absurd w.2 z
            · intro w; omega
      exact ⟨_, run n 0 M0 (0, dwk I, (I 25 2).toInt) 1 (by omega) haM0 hIm0 g22 g21 g34 g84 g85 (by rw [b01_pos]; rfl) ⟨by simp, hz.1, hz.2.1, by simp⟩ rfl⟩
  have hau : ag scM (21 :: tcM) I1 (u2 (u2 J 71 22 x) 71 21 0) := agm (agm (haJ.up rfl rfl) (by decide)) (by decide)
  refine ⟨_, outer 256 0 _ (by omega) hau (by rw [u2i (by decide), u2e]) u2e (by rw [u2i (by decide), u2i (by decide)]) (by rw [u2_ne _ (by decide), u2_ne _ (by decide)]) (fun t ht => by omega)⟩
end C7

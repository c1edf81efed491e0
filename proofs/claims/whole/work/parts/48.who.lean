/-! who -/
def setL (T gn : Nat) : List Nat := (List.range gn).filter (fun i => T.testBit i)
theorem setL_succ {T j : Nat} : setL T (j + 1) = if T.testBit j = true then setL T j ++ [j] else setL T j := by
  unfold setL
  rw [List.range_succ, List.filter_append]
  by_cases h : T.testBit j = true
  · rw [if_pos h]; simp [h]
  · rw [if_neg h]; simp [h]
theorem setL_len {T gn : Nat} : (setL T gn).length ≤ gn := by
  unfold setL
  have := List.length_filter_le (fun i => T.testBit i) (List.range gn)
  rw [List.length_range] at this
  exact this
theorem setL_mem {T gn n : Nat} (h : n ∈ setL T gn) : n < gn := by
  unfold setL at h
  have := (List.mem_filter.mp h).1
  exact List.mem_range.mp this
theorem getD_snoc {l : List Nat} {x i : Nat} : (l ++ [x]).getD i 0 = if i < l.length then l.getD i 0 else if i = l.length then x else 0 := by
  by_cases h : i < l.length
  · rw [if_pos h]
    simp [List.getElem?_append_left h]
  · rw [if_neg h]
    by_cases h2 : i = l.length
    · rw [if_pos h2, h2]
      simp
    · rw [if_neg h2]
      simp [List.getElem?_eq_none (show (l ++ [x]).length ≤ i by simp; omega)]
def cmpW (f w : Nat → Int) (way : Nat) : Nat → Nat → Bool
  | 0, _ => true
  | m + 1, i => if w (8 * way + i) = f i then cmpW f w way m (i + 1) else false
theorem cmpW_loc {f w w' : Nat → Int} {way : Nat} (h : eqW way w w') : ∀ m i, i + m ≤ 8 → cmpW f w way m i = cmpW f w' way m i := by
  intro m
  induction m with
  | zero => intro i _; rfl
  | succ m ih =>
    intro i hi
    unfold cmpW
    rw [h i (by omega), ih (i + 1) (by omega)]
def whoZ (F : Option lF) (p : Nat → Nat → Int) (way gn : Nat) (mn : Int) (T : Nat) : zT := zL F p (p 0) way (setL T gn) (0, fun _ => 0, mn)
def whoB (F : Option lF) (p : Nat → Nat → Int) (f : Nat → Int) (sz way gn : Nat) (mn : Int) (T : Nat) : Bool := decide ((whoZ F p way gn mn T).1 = (setL T gn).length) && cmpW f (whoZ F p way gn mn T).2.1 way (min 8 sz) 0
def zwho (B : Nat → Bool) : Nat → Nat → Int × Int × Int32 → Int × Int × Int32
  | 0, _, S => S
  | m + 1, T, S => zwho B m (T + 1) (if B T = true then (S.1 + 1, if S.1 = 0 then (T : Int) else S.2.1, if S.1 = 0 then Int32.ofNat T else S.2.2 &&& Int32.ofNat T) else S)
section WH
variable {G : jG} {l : Launch} {d k : Nat} {F : Option lF} {g : Int} {p : Nat → Nat → Int} {I : jS} {L : jL} {st wk : Nat → Int} {mn : Int} {Q : Int32 → jS → jL → Prop} {Qv : jS → jL → Prop} {K : Int32 → Int32 → jS → jL → Prop}
theorem Od.cg {o o' : Nat → Nat} {n : Nat} (h : Od I o n) (he : ∀ i, i < n → o i = o' i) : Od I o' n := ⟨h.1, h.2.1, fun i hi => by rw [h.2.2 i hi, he i hi]⟩
theorem tX10_bySet {T gn : Nat} (hF : Fr G l F g p I) (hgn : g = gn) (hT : T < 256) (h : ∀ I', ag [31, 35] [] I I' → Od I' (fun i => (setL T gn).getD i 0) (setL T gn).length → Qv I' L) : cV G l mX10_bySet (d + 2) [.ref 31, .int (Int32.ofNat T)] I L Qv := by
  have hg := hF.1
  refine wX10_bySet_ok (Q := fun v I' L' => v = none ∧ Qv I' L') ?_
  unfold wX10_bySet
  have key : ∀ (m j : Nat) J, j + m = gn → ag [31, 35] [] I J → Od J (fun i => (setL T j).getD i 0) (setL T j).length → wX10_bySet_7 G l (d + 1) (fun v I' L' => v = none ∧ Qv I' L') (m + 1) (Int32.ofNat T) (Int32.ofNat j) J L := by
    intro m
    induction m with
    | zero =>
      intro j J hj ha hO
      have hFJ := hF.ag ha rfl
      have : j = gn := by omega
      subst this
      unfold wX10_bySet_7
      rw [if_pos (by rw [zle, hFJ.2.1, zo (by omega)]; omega)]
      exact ⟨rfl, h J ha hO⟩
    | succ m ih =>
      intro j J hj ha hO
      have hFJ := hF.ag ha rfl
      have hlen := setL_len (T := T) (gn := j)
      have hs := setL_succ (T := T) (j := j)
      unfold wX10_bySet_7
      rw [if_neg (by rw [zle, hFJ.2.1, zo (by omega)]; omega), zsucc]
      have hbit : ((Int32.ofNat T >>> (Int32.ofNat j &&& 31)) &&& 1 = 1) ↔ T.testBit j = true := by
        have := bitP_bt (x := Int32.ofNat T) (k := j) (by omega)
        rw [bt_nat hT (by omega)] at this
        exact this
      refine ife (fun q => ?_) (fun q => ?_)
      · rw [if_pos (hbit.mp q)] at hs
        have hO' : Od J (fun i => (setL T (j + 1)).getD i 0) (setL T j).length := hO.cg (fun i hi => by
          rw [hs, getD_snoc, if_pos hi])
        refine tX10_add hO' (by omega) (by rw [zo (by omega)]; rw [hs, getD_snoc, if_neg (by omega), if_pos rfl]) (fun J2 ha2 hO2 => ih (j + 1) J2 (by omega) (ha.th ha2) ?_)
        have hl : (setL T (j + 1)).length = (setL T j).length + 1 := by rw [hs]; simp
        rw [hl]
        exact hO2
      · rw [if_neg (fun z => q (hbit.mpr z))] at hs
        refine ih (j + 1) J (by omega) ha ?_
        rw [hs]
        exact hO
  exact ⟨_, key gn 0 _ (by omega) (agu ag.rf (by simp) (by decide)) ⟨by rw [u2e]; rfl, by simp [setL], fun i hi => by simp [setL] at hi⟩⟩
theorem tX11_mayHaveGone {x y : Int32} {e way gn T : Nat} {J : jS} (hF : Fr G l F g p I) (hB : ByR I L e) (ha : ag scC [] I J) (hz : zok (dwk I) (I 25 2).toInt) (hmn : (I 25 2).toInt ≤ 100000) (hgn : g = gn) (hT : T < 256) (hx : x.toInt = e) (hy : y.toInt = way) (hw : way < 3)
    (h : ∀ J', ag scC [] I J' → Q (b01 (whoB F p (shf8 L e) (I 59 e).toInt.toNat way gn (I 25 2).toInt T = true)) J' L) : cI G l mX11_mayHaveGone (d + 7) [.ref 0, .int x, .int y, .int (Int32.ofNat T)] J L Q := by
  have i25 : isIce 25 := by unfold isIce; decide
  have i32 : isIce 32 := by unfold isIce; decide
  have hg := hF.1
  have he := hB.1
  have hsz := hB.2.2.2.2.1
  have hlen := setL_len (T := T) (gn := gn)
  refine wX11_mayHaveGone_ok ?_
  unfold wX11_mayHaveGone
  refine tX10_bySet (hF.ag ha rfl) hgn hT (fun J1 ha1 hO1 => ?_)
  have hb1 : ag scC [] I J1 := ha.cl ha1
  refine tX3_follow i32 i25 (by decide) (hF.ag hb1 rfl) (Ic_deed.ag i25 hb1 (by decide) (by decide) (by decide)) (fun J2 ha2 hJ2 => tX5_clearWay i32 hJ2 hy hw (fun J3 ha3 hJ3 => ?_))
  have hb3 : ag scC [] I J3 := (hb1.cl ha2).cl ha3
  have hzk : zok (onW way 0 (dwk I)) (I 25 2).toInt := ⟨fun s hs => by
    have := hz.1 s hs
    unfold onW
    by_cases q : 8 * way ≤ s ∧ s < 8 * way + 8
    · rw [if_pos q]; omega
    · rw [if_neg q]; exact this, hz.2⟩
  have hmem : ∀ i, i < (setL T gn).length → ((((setL T gn).getD i 0 : Nat)) : Int) < g := fun i hi => by
    have : (setL T gn).getD i 0 ∈ setL T gn := by
      simp [List.getElem?_eq_getElem hi]
    have := setL_mem this
    omega
  refine tX10_walk (o := fun i => (setL T gn).getD i 0) (hF.ag hb3 rfl) ((hO1.ag ha2 rfl rfl).ag ha3 rfl rfl) hmem hJ3 hzk hmn (zst0 hF) hy hw (fun J4 ha4 hO4 h6 _ hJ4 => ?_)
  have hb4 : ag scC [] I J4 := hb3.cl ha4
  have hzl := zrun_LL (F := F) (p := p) (st := p 0) (way := way) (l := setL T gn) (o := fun i => (setL T gn).getD i 0) (S := (0, -2, onW way 0 (dwk I), (I 25 2).toInt)) (fun i hi => rfl)
  generalize zrun F p (p 0) way (fun i => (setL T gn).getD i 0) (setL T gn).length 0 (0, -2, onW way 0 (dwk I), (I 25 2).toInt) = R at *
  have hloc := zL_loc (F := F) (p := p) (st := p 0) (st' := p 0) (way := way) eqW.rf (setL T gn) (0, onW way 0 (dwk I), (I 25 2).toInt) (0, fun _ => 0, (I 25 2).toInt) rfl onW_eq rfl
  rw [← hzl] at hloc
  unfold whoB whoZ at h
  have hl1 : R.1 = (zL F p (p 0) way (setL T gn) (0, fun _ => 0, (I 25 2).toInt)).1 := hloc.1
  have hl2 : eqW way R.2.2.1 (zL F p (p 0) way (setL T gn) (0, fun _ => 0, (I 25 2).toInt)).2.1 := hloc.2.1
  rw [← hl1, ← cmpW_loc hl2 (min 8 (I 59 e).toInt.toNat) 0 (by omega)] at h
  refine ife (fun q => ?_) (fun q => ?_)
  · rw [zeq, h6, hO4.1] at q
    rw [show decide (R.1 = ((setL T gn).length : Int)) = true from decide_eq_true q, Bool.true_and] at h
    refine tX9_sizeOf ?_
    have exe : x.toInt.toNat = e := by omega
    have e59 : J4 59 = I 59 := hb4.c 59
    rw [if_pos (show 0 ≤ x.toInt ∧ x.toInt < 6 by omega), exe, e59]
    have hlen8 : (if I 59 e < 8 then I 59 e else 8).toInt = ((min 8 (I 59 e).toInt.toNat : Nat) : Int) := by
      by_cases q : I 59 e < 8
      · rw [if_pos q]; rw [zlt, zl_8] at q; omega
      · rw [if_neg q]; rw [zlt, zl_8] at q; rw [zl_8]; omega
    generalize (if I 59 e < 8 then I 59 e else 8) = told at hlen8
    generalize hM8 : min 8 (I 59 e).toInt.toNat = m8 at *
    generalize hcv : cmpW (shf8 L e) R.2.2.1 way m8 0 = cv at h
    have key : ∀ m i, i + m = m8 → cmpW (shf8 L e) R.2.2.1 way m i = cv → wX11_mayHaveGone_85 G l (d + 6) (fun v I' L' => ∃ r, v = some (.int r) ∧ Q r I' L') (m + 1) x y told (Int32.ofNat i) J4 L := by
      intro m
      induction m with
      | zero =>
        intro i hi hc
        unfold wX11_mayHaveGone_85
        rw [if_pos (by rw [zle, hlen8, zo (by omega)]; omega)]
        unfold cmpW at hc
        have := h J4 hb4
        rw [b01_pos hc.symm] at this
        exact ri this
      | succ m ih =>
        intro i hi hc
        unfold wX11_mayHaveGone_85
        rw [if_neg (by rw [zle, hlen8, zo (by omega)]; omega)]
        have e8 : (y * 8).toInt = way * 8 := by rw [zmul (by rw [hy, zl_8]; omega) (by rw [hy, zl_8]; omega), hy, zl_8]
        have e9 : (y * 8 + Int32.ofNat i).toInt = way * 8 + i := by rw [zadd (by rw [e8, zo (by omega)]; omega) (by rw [e8, zo (by omega)]; omega), e8, zo (by omega)]
        refine tX5_weakOn i32 (by rw [e9]; omega) (tX9_byteAt' (hB.ag hb4 rfl) hx (zo (by omega)) (by omega) (fun r2 h2 => ?_))
        have en : (y * 8 + Int32.ofNat i).toInt.toNat = 8 * way + i := by rw [e9]; omega
        rw [en]
        have hv := hJ4.2.1 (8 * way + i) (by omega)
        unfold cmpW at hc
        refine ife (fun q => ?_) (fun q => ?_)
        · rw [zeq, hv, h2] at q
          rw [if_pos q] at hc
          rw [zsucc]
          exact ih (i + 1) (by omega) hc
        · rw [zeq, hv, h2] at q
          rw [if_neg q] at hc
          have := h J4 hb4
          rw [b01_neg (by rw [← hc]; decide)] at this
          exact ri this
    exact ⟨_, key m8 0 (by omega) hcv⟩
  · rw [zeq, h6, hO4.1] at q
    rw [show decide (R.1 = ((setL T gn).length : Int)) = false from decide_eq_false q, Bool.false_and] at h
    have := h J4 hb4
    rw [b01_neg (by decide)] at this
    exact ri this
theorem tX12_leaves {x y : Int32} {e way gn T : Nat} {I1 J : jS} (h0 : Inv (LRl G l) k I L) (hF : Fr G l F (I 1 1).toInt p I) (hB : ByR I L e) (ha : ag scC [] I I1) (haJ : ag scM tcM I1 J) (hz : zok (dwk I) (I 25 2).toInt) (hmn : (I 25 2).toInt ≤ 100000) (hgn : (I 1 1).toInt = gn) (hT : T < 256) (hx : x.toInt = e) (hy : y.toInt = way) (hw : way < 3)
    (h : ∀ J', ag scM tcM I1 J' → Q (b01 (whoB F p (shf8 L e) (I 59 e).toInt.toNat way gn (I 25 2).toInt T = true)) J' L) : cI G l mX12_leaves (d + 104) [.ref 71, .int x, .int y, .int (Int32.ofNat T)] J L Q := by
  obtain ⟨hP, hC, hI, hT', hR, hD, hG, hA, hS, hM⟩ := id h0
  have hg := hF.1
  have he := hB.1
  have hsz := hB.2.2.2.2.1
  refine wX12_leaves_ok ?_
  unfold wX12_leaves
  have hin : vp_in x 6 := by rw [zin]; omega
  have hnx : x.toNatClampNeg = e := by rw [znat]; omega
  -- the row against the ice
  have cmp : ∀ J' (w : Nat → Int) (is : Int32) (b : Prop) [Decidable b], ag scM tcM I1 J' → (∀ s, s < 24 → (J' 80 s).toInt = w s) → is = b01 b → (b01 (b ∧ cmpW (shf8 L e) w way (min 8 (I 59 e).toInt.toNat) 0 = true) = b01 (whoB F p (shf8 L e) (I 59 e).toInt.toNat way gn (I 25 2).toInt T = true)) → ∃ f, wX12_leaves_85 G l (d + 103) (fun v I' L' => ∃ r, v = some (.int r) ∧ Q r I' L') f x y is 0 J' L := fun J' w is b _ haJ' hw80 his hfin => by
    have hall : ag (scC ++ scM) tcM I J' := ha.th haJ'
    have hBJ := hB.ag hall rfl
    have e59 : J' 59 = I 59 := hall.c 59
    generalize hM8 : min 8 (I 59 e).toInt.toNat = m8 at *
    have e8 : (8 * y).toInt = 8 * way := by rw [zmul (by rw [hy, zl_8]; omega) (by rw [hy, zl_8]; omega), hy, zl_8]
    have key : ∀ (m i : Nat) (is : Int32), i + m = m8 → ∀ (b2 : Prop) [Decidable b2], is = b01 b2 → (b01 (b2 ∧ cmpW (shf8 L e) w way m i = true) = b01 (whoB F p (shf8 L e) (I 59 e).toInt.toNat way gn (I 25 2).toInt T = true)) → wX12_leaves_85 G l (d + 103) (fun v I' L' => ∃ r, v = some (.int r) ∧ Q r I' L') (m + 1) x y is (Int32.ofNat i) J' L := by
      intro m
      induction m with
      | zero =>
        intro i is hi b2 _ his2 hf
        have hres := h J' haJ'
        rw [← hf, b01_iff (p := b2 ∧ cmpW (shf8 L e) w way 0 i = true) (q := b2) ⟨fun z => z.1, fun z => ⟨z, rfl⟩⟩, ← his2] at hres
        have hor : is = 0 ∨ is = 1 := by rw [his2]; exact b01_or
        unfold wX12_leaves_85
        refine ife (fun q => ⟨hor, ri hres⟩) (fun q => ⟨hin, ?_⟩)
        rw [zle, zl_8, zo (by omega)] at q
        rw [hnx, hBJ.2.2.2.1, e59, if_pos (by rw [zle, zo (by omega)]; omega)]
        exact ⟨hor, ri hres⟩
      | succ m ih =>
        intro i is hi b2 _ his2 hf
        have k1 := z60a hx he (zo (k := i) (by omega)) (by omega)
        have n1 : (60 * x + Int32.ofNat i).toNatClampNeg = 60 * e + i := by rw [znat, k1]; omega
        have e9 : (8 * y + Int32.ofNat i).toInt = 8 * way + i := by rw [zadd (by rw [e8, zo (by omega)]; omega) (by rw [e8, zo (by omega)]; omega), e8, zo (by omega)]
        have n9 : (8 * y + Int32.ofNat i).toNatClampNeg = 8 * way + i := by rw [znat, e9]; omega
        have hv := hw80 (8 * way + i) (by omega)
        have hit := hB.2.2.2.2.2 i (by omega)
        unfold cmpW at hf
        unfold wX12_leaves_85
        rw [if_neg (by rw [zle, zl_8, zo (by omega)]; omega)]
        refine ⟨hin, ?_⟩
        rw [hnx, hBJ.2.2.2.1, e59, if_neg (by rw [zle, zo (by omega)]; omega)]
        refine ⟨by rw [zin, k1]; omega, by rw [zin, e9]; omega, ?_⟩
        rw [n1, n9, zsucc, hit.1]
        have hc : lg_cmp (L (62 + e) i) (J' 80 (8 * way + i)).toInt64 = 0 ↔ w (8 * way + i) = shf8 L e i := by
          rw [lcmp_eq, ← Int64.toInt_inj, z64, hv]
          exact eq_comm
        refine ife (fun q => ?_) (fun q => ?_)
        · rw [if_pos (hc.mp q)] at hf
          refine ih (i + 1) _ (by omega) b2 ?_ hf
          rw [his2]
          by_cases hb2 : b2
          · rw [b01_pos hb2]; decide
          · rw [b01_neg hb2]; decide
        · rw [if_neg (fun z => q (hc.mpr z))] at hf
          refine ih (i + 1) _ (by omega) False ?_ ?_
          · rw [b01_neg (fun z => z)]
            rw [his2]
            by_cases hb2 : b2
            · rw [b01_pos hb2]; decide
            · rw [b01_neg hb2]; decide
          · rw [← hf]
            exact b01_iff ⟨fun z => z.1.elim, fun z => absurd z.2 (by decide)⟩
    exact ⟨_, key m8 0 is (by omega) b his hfin⟩
  -- the goers of the set
  have run : ∀ (m j : Nat) J' (is : Int32), j + m = gn → ag scM tcM I1 J' → Im J' p (p 0) (zL F p (p 0) way (setL T j) (0, fun _ => 0, (I 25 2).toInt)).2.1 (zL F p (p 0) way (setL T j) (0, fun _ => 0, (I 25 2).toInt)).2.2 → is = b01 ((zL F p (p 0) way (setL T j) (0, fun _ => 0, (I 25 2).toInt)).1 = (setL T j).length) → wX12_leaves_38 G l (d + 103) (fun v I' L' => ∃ r, v = some (.int r) ∧ Q r I' L') (m + 1) x y (Int32.ofNat T) is (Int32.ofNat j) J' L := by
    intro m
    induction m with
    | zero =>
      intro j J' is hj haJ' hIm his
      have : j = gn := by omega
      subst this
      have hall : ag (scC ++ scM) tcM I J' := ha.th haJ'
      have hFJ := hF.ag hall rfl
      unfold wX12_leaves_38
      rw [if_pos (by rw [zle, hFJ.2.2.1, zo (by omega)]; omega)]
      refine cmp J' _ is _ haJ' hIm.2.1 his ?_
      unfold whoB whoZ
      refine b01_iff ?_
      rw [Bool.and_eq_true, decide_eq_true_iff]
    | succ m ih =>
      intro j J' is hj haJ' hIm his
      have hall : ag (scC ++ scM) tcM I J' := ha.th haJ'
      have hFJ := hF.ag hall rfl
      have hs := setL_succ (T := T) (j := j)
      have hlen := setL_len (T := T) (gn := j)
      have hok := zL_ok (st := p 0) hF (B := (I 25 2).toInt) ⟨hz.2.1, hmn⟩ hw (setL T j) 0 (0, fun _ => 0, (I 25 2).toInt) (by omega) (fun n hn => by have := setL_mem hn; omega) ⟨by simp, fun s hs => by simp, hz.2.1, by simp⟩
      have hbit : bitP (Int32.ofNat T) (Int32.ofNat j) ↔ T.testBit j = true := by
        have := bitP_bt (x := Int32.ofNat T) (k := j) (by omega)
        rw [bt_nat hT (by omega)] at this
        exact this
      unfold wX12_leaves_38
      rw [if_neg (by rw [zle, hFJ.2.2.1, zo (by omega)]; omega)]
      refine tX12_isIn (ifz (fun q => ?_) (fun q => ?_))
      · rw [if_neg (fun z => q (hbit.mpr z))] at hs
        unfold wX12_leaves_68
        rw [zsucc]
        refine ih (j + 1) J' _ (by omega) haJ' (by rw [hs]; exact hIm) ?_
        rw [hs, ← his, his]
        rcases b01_or (p := (zL F p (p 0) way (setL T j) (0, fun _ => 0, (I 25 2).toInt)).1 = (setL T j).length) with z | z
        · rw [z]; decide
        · rw [z]; decide
      · rw [if_pos (hbit.mp q)] at hs
        have hap := zL_append (F := F) (p := p) (st := p 0) (way := way) (setL T j) [j] (0, fun _ => 0, (I 25 2).toInt)
        rw [← hs] at hap
        have hl : (setL T (j + 1)).length = (setL T j).length + 1 := by rw [hs]; simp
        generalize zL F p (p 0) way (setL T j) (0, fun _ => 0, (I 25 2).toInt) = S at *
        have hap1 : (zL F p (p 0) way (setL T (j + 1)) (0, fun _ => 0, (I 25 2).toInt)).1 = S.1 + (if (zcross F p (p 0) way j 0 false S.2.1 S.2.2).1 = -1 then 1 else 0) := by rw [hap]; rfl
        have hap2 : (zL F p (p 0) way (setL T (j + 1)) (0, fun _ => 0, (I 25 2).toInt)).2 = (zcross F p (p 0) way j 0 false S.2.1 S.2.2).2 := by rw [hap]; rfl
        have hb1 := hok.1
        refine tX12_crosses hFJ hIm ⟨hok.2.1, hok.2.2.1, by have := hok.2.2.2; omega⟩ (zst0 hF) (zo (by omega)) (by omega) hy hw (fun J2 ha2 hIm2 _ => ?_)
        have haJ2 : ag scM tcM I1 J2 := haJ'.ml ha2
        rw [zsucc]
        refine ifz (fun q2 => ?_) (fun q2 => ?_)
        · rw [if_neg q2] at hap1
          refine ih (j + 1) J2 _ (by omega) haJ2 (by rw [hap2]; exact hIm2) ?_
          rw [hap1, hl, b01_neg (by omega), his]
          rcases b01_or (p := S.1 = (setL T j).length) with z | z
          · rw [z]; decide
          · rw [z]; decide
        · rw [if_pos q2] at hap1
          unfold wX12_leaves_68
          rw [zsucc]
          refine ih (j + 1) J2 _ (by omega) haJ2 (by rw [hap2]; exact hIm2) ?_
          rw [hap1, hl, his, b01_iff (p := S.1 + 1 = (((setL T j).length + 1 : Nat) : Int)) (q := S.1 = (setL T j).length) (by omega)]
          rcases b01_or (p := S.1 = (setL T j).length) with z | z
          · rw [z]; decide
          · rw [z]; decide
  -- the ice is cleared
  have clr : ∀ (q s : Nat) M, s + q = 24 → ag scM tcM I1 M → (∀ t, t < s → M 80 t = 0) → wX12_leaves_3 G l (d + 103) (fun v I' L' => ∃ r, v = some (.int r) ∧ Q r I' L') (q + 1) x y (Int32.ofNat T) (Int32.ofNat s) M L := by
    intro q
    induction q with
    | zero =>
      intro s M hs haM hm80
      have : s = 24 := by omega
      subst this
      unfold wX12_leaves_3
      rw [if_pos (by decide)]
      have haM2 : ag scM tcM I1 (u2 M 71 20 (M 71 8)) := agm haM (by decide)
      have hall : ag (scC ++ scM) tcM I M := ha.th haM
      refine ⟨_, run gn 0 _ 1 (by omega) haM2 ⟨fun s hs => ?_, fun s hs => ?_, ?_⟩ ?_⟩
      · have f21 : (u2 M 71 20 (M 71 8)) 71 21 = 0 := by rw [u2i (by decide), hall.m 21]; exact hM.1
        have f23 : (u2 M 71 20 (M 71 8)) 71 23 = -1 := by rw [u2i (by decide), hall.m 23]; exact hM.2
        rw [f21, f23]
        exact rst_0
      · rw [u2n (by decide), hm80 s hs]; rfl
      · rw [u2e, hall.m 8, hI.2.1]; rfl
      · rw [b01_pos]; rfl
    | succ q ihq =>
      intro s M hs haM hm80
      unfold wX12_leaves_3
      rw [if_neg (by rw [zle, zl_24, zo (by omega)]; omega)]
      refine ⟨by rw [zin, zo (by omega)]; omega, ?_⟩
      rw [zon (by omega), zsucc]
      refine ihq (s + 1) _ (by omega) (agu haM (by decide) (by decide)) (fun t ht => ?_)
      rw [u2_ap]
      by_cases ht2 : t = s
      · rw [if_pos ⟨rfl, ht2⟩]
      · rw [if_neg (fun z => ht2 z.2)]; exact hm80 t (by omega)
  exact ⟨_, clr 24 0 J (by omega) haJ (fun t ht => by omega)⟩
end WH

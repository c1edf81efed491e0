/-! orders in thought: reading one, walking it -/
def scC : List Nat := [21, 22, 23, 31, 32, 33, 34, 35, 36, 37, 38, 39, 40, 42, 43, 44, 45, 46, 47, 48, 49, 50, 51, 52, 53, 54, 55, 56]
def scM : List Nat := [79, 80, 81, 82, 83, 84, 85]
def tcM : List Nat := [13, 14, 15, 16, 17, 20, 22, 24, 25, 28, 30, 31, 32, 34]
theorem ssub {S S' : List Nat} (h : S.all (fun r => S'.contains r) = true) : ∀ r ∈ S, r ∈ S' := fun r hr => by
  have := List.all_eq_true.mp h r hr
  simpa using this
theorem ag.up {S T S' T' : List Nat} {I I1 : jS} (h : ag S T I I1) (hS : S.all (fun r => S'.contains r) = true) (hT : T.all (fun r => T'.contains r) = true) : ag S' T' I I1 := h.mono (ssub hS) (ssub hT)
theorem ag.th {S T S1 T1 S2 T2 : List Nat} {I I1 I2 : jS} (h : ag S1 T1 I I1) (h' : ag S2 T2 I1 I2) (a : S1.all (fun r => S.contains r) = true := by rfl) (b : T1.all (fun r => T.contains r) = true := by rfl) (c : S2.all (fun r => S.contains r) = true := by rfl) (e : T2.all (fun r => T.contains r) = true := by rfl) : ag S T I I2 :=
  (h.up a b).tr (h'.up c e) (fun _ q => q) (fun _ q => q)
theorem ag.cl {I I1 I2 : jS} {S2 : List Nat} (h : ag scC [] I I1) (h' : ag S2 [] I1 I2) (c : S2.all (fun r => scC.contains r) = true := by rfl) : ag scC [] I I2 := h.th h' rfl rfl c rfl
theorem ag.ml {I I1 I2 : jS} {S2 T2 : List Nat} (h : ag scM tcM I I1) (h' : ag S2 T2 I1 I2) (c : S2.all (fun r => scM.contains r) = true := by rfl) (e : T2.all (fun r => tcM.contains r) = true := by rfl) : ag scM tcM I I2 := h.th h' rfl rfl c e
/-- a call that only scribbles, by its answer -/
theorem scr2 {G : jG} {l : Launch} {k : Nat} {I : jS} {L : jL} {LR : jLR} {M1 M2 : jM} {D : Nat} {a1 a2 : List Value} {K : Int32 → Int32 → jS → jL → Prop} (h : Inv LR k I L) (v : Int)
    (h1 : ∀ Q : Int32 → jS → jL → Prop, (∀ (r : Int32) I1, r.toInt = v → ag scC [] I I1 → Q r I1 L) → cI G l M1 D a1 I L Q)
    (h2 : ∀ I1, ag scC [] I I1 → ∀ Q : Int32 → jS → jL → Prop, (∀ (r : Int32) I2, r.toInt = v → ag scM tcM I1 I2 → Q r I2 L) → cI G l M2 D a2 I1 L Q)
    (hk : ∀ r I' L', Inv LR (k + 1) I' L' → K r r I' L') : cI G l M1 D a1 I L (fun r I1 L1 => cI G l M2 D a2 I1 L1 (fun r' I2 L2 => K r r' I2 L2)) := by
  refine two (P := fun r I1 L1 => L1 = L ∧ r.toInt = v ∧ ag scC [] I I1) (fun Q hq => h1 Q (fun r I1 a b => hq _ _ _ ⟨rfl, a, b⟩)) (fun r I1 L1 hp Q hq => ?_) hk
  obtain ⟨rfl, hr, ha⟩ := hp
  refine h2 I1 ha Q (fun r' I2 hr' ha' => ?_)
  have : r' = r := by rw [zeq, hr, hr']
  rw [this]
  exact hq _ _ (h.scr (ag.th (S := scC ++ scM) (T := tcM) ha ha') rfl)
def shV (ok : Prop) [Decidable ok] (sh x : Int) : Int := if ok then (if sh < 0 then -11 else if sh = 50 then x else -12) else -1
theorem shV_no {ok : Prop} [Decidable ok] {sh x : Int} (h : ¬ ok) : shV ok sh x = -1 := if_neg h
theorem shV_ok {ok : Prop} [Decidable ok] {sh x : Int} (h : ok) : shV ok sh x = if sh < 0 then -11 else if sh = 50 then x else -12 := if_pos h
def bsV (sh : Int) (x : Int32) : Int32 := if sh < 0 then -11 else if sh = 50 then x else -12
theorem bsV_z {sh : Int} {x : Int32} {ok : Prop} [Decidable ok] {y : Int} (h : ok) (hs : ¬ sh = 50) : (bsV sh x).toInt = shV ok sh y := by
  rw [shV_ok h]
  unfold bsV
  by_cases h1 : sh < 0
  · rw [if_pos h1, if_pos h1]; decide
  · rw [if_neg h1, if_neg h1, if_neg hs, if_neg hs]; decide
theorem bsV_50 {sh : Int} {x : Int32} (hs : sh = 50) : bsV sh x = x := by
  unfold bsV
  rw [if_neg (by omega), if_pos hs]
theorem shV_50 {ok : Prop} [Decidable ok] {sh x : Int} (h : ok) (hs : sh = 50) : shV ok sh x = x := by
  rw [shV_ok h, if_neg (by omega), if_pos hs]
theorem bsV_n {sh : Int} {x : Int32} (hs : ¬ sh = 50) : ¬ bsV sh x = 0 ∧ (bsV sh x).toInt < 0 ∧ ¬ bsV sh x = -1 := by
  unfold bsV
  by_cases h1 : sh < 0
  · rw [if_pos h1]; decide
  · rw [if_neg h1, if_neg hs]; decide
/-- of a row, the first that are goers -/
def rdN (f : Nat → Int) (g : Int) : Nat → Nat → Nat
  | 0, i => i
  | m + 1, i => if 0 ≤ f i ∧ f i < g then rdN f g m (i + 1) else i
theorem rdN_le {f : Nat → Int} {g : Int} : ∀ m i, i ≤ rdN f g m i ∧ rdN f g m i ≤ i + m := by
  intro m
  induction m with
  | zero => intro i; unfold rdN; omega
  | succ m ih =>
    intro i
    unfold rdN
    by_cases h : 0 ≤ f i ∧ f i < g
    · rw [if_pos h]; have := ih (i + 1); omega
    · rw [if_neg h]; omega
theorem rdN_g {f : Nat → Int} {g : Int} : ∀ m i j, i ≤ j → j < rdN f g m i → 0 ≤ f j ∧ f j < g := by
  intro m
  induction m with
  | zero => intro i j h1 h2; unfold rdN at h2; omega
  | succ m ih =>
    intro i j h1 h2
    unfold rdN at h2
    by_cases h : 0 ≤ f i ∧ f i < g
    · rw [if_pos h] at h2
      by_cases hij : j = i
      · rw [hij]; exact h
      · exact ih (i + 1) j (by omega) h2
    · rw [if_neg h] at h2; omega
abbrev zR : Type := Int × Int × (Nat → Int) × Int
/-- one of an order: how many are over, the first fall, weakness, minute -/
def zstp (F : Option lF) (p : Nat → Nat → Int) (st : Nat → Int) (way n i : Nat) (S : zR) : zR :=
  (S.1 + (if (zcross F p st way n 0 false S.2.2.1 S.2.2.2).1 = -1 then 1 else 0), if (zcross F p st way n 0 false S.2.2.1 S.2.2.2).1 ≠ -1 ∧ S.2.1 < 0 then (i : Int) else S.2.1, (zcross F p st way n 0 false S.2.2.1 S.2.2.2).2.1, (zcross F p st way n 0 false S.2.2.1 S.2.2.2).2.2)
def zrun (F : Option lF) (p : Nat → Nat → Int) (st : Nat → Int) (way : Nat) (o : Nat → Nat) : Nat → Nat → zR → zR
  | 0, _, S => S
  | m + 1, i, S => zrun F p st way o m (i + 1) (zstp F p st way (o i) i S)
/-- what holds on the way -/
def zRok (B : Int) (i : Nat) (S : zR) : Prop := (0 ≤ S.1 ∧ S.1 ≤ i) ∧ (S.2.1 = -2 ∨ (0 ≤ S.2.1 ∧ S.2.1 ≤ i)) ∧ (∀ s, s < 24 → 0 ≤ S.2.2.1 s ∧ S.2.2.1 s ≤ 99) ∧ 0 ≤ S.2.2.2 ∧ S.2.2.2 ≤ B + 18 * i
section OD
variable {G : jG} {l : Launch} {d : Nat} {F : Option lF} {g : Int} {p : Nat → Nat → Int} {I : jS} {L : jL} {st wk : Nat → Int} {mn : Int} {Q : Int32 → jS → jL → Prop} {Qv : jS → jL → Prop}
theorem zstp_ok (hF : Fr G l F g p I) {way n i : Nat} {S : zR} {B : Int} (hB : 0 ≤ B ∧ B ≤ 100000) (hw : way < 3) (hn : (n : Int) < g) (hi : i ≤ 100) (h : zRok B i S) : zRok B (i + 1) (zstp F p st way n i S) := by
  obtain ⟨h1, h2, h3, h4⟩ := h
  have hz := zcross_ok hF (st := st) (wk := S.2.2.1) (mn := S.2.2.2) (more := 0) (back := false) hw hn (by decide) ⟨h3, h4.1, by omega⟩
  refine ⟨?_, ?_, hz.1, ?_⟩
  · unfold zstp
    simp only
    by_cases q : (zcross F p st way n 0 false S.2.2.1 S.2.2.2).1 = -1
    · rw [if_pos q]; omega
    · rw [if_neg q]; omega
  · unfold zstp
    simp only
    by_cases q : (zcross F p st way n 0 false S.2.2.1 S.2.2.2).1 ≠ -1 ∧ S.2.1 < 0
    · rw [if_pos q]; omega
    · rw [if_neg q]; omega
  · unfold zstp
    simp only
    omega
theorem zrun_ok (hF : Fr G l F g p I) {way : Nat} {o : Nat → Nat} {B : Int} (hB : 0 ≤ B ∧ B ≤ 100000) (hw : way < 3) : ∀ m i S, i + m ≤ 100 → (∀ j, j < i + m → (o j : Int) < g) → zRok B i S → zRok B (i + m) (zrun F p st way o m i S) := by
  intro m
  induction m with
  | zero => intro i S _ _ h; exact h
  | succ m ih =>
    intro i S hm ho h
    unfold zrun
    have := ih (i + 1) _ (by omega) (fun j hj => ho j (by omega)) (zstp_ok (st := st) hF hB hw (ho i (by omega)) (by omega) h)
    have e : i + 1 + m = i + (m + 1) := by omega
    rw [e] at this
    exact this
/-- the class's order -/
def Od (I : jS) (o : Nat → Nat) (n : Nat) : Prop := (I 31 5).toInt = n ∧ n ≤ 10 ∧ ∀ i, i < n → (I 35 i).toInt = o i
theorem tX10_add {x : Int32} {o : Nat → Nat} {n : Nat} (h0 : Od I o n) (hn : n < 10) (hx : x.toInt = o n) (h : ∀ I', ag [31, 35] [] I I' → Od I' o (n + 1) → Qv I' L) : cV G l mX10_add (d + 1) [.ref 31, .int x] I L Qv := by
  refine wX10_add_ok (Q := fun v I' L' => v = none ∧ Qv I' L') ?_
  unfold wX10_add
  have hnat : (I 31 5).toNatClampNeg = n := by rw [znat, h0.1]; omega
  rw [if_neg (by rw [zlt, z0, h0.1]; omega), if_pos (by rw [zlt, zl_10, h0.1]; omega)]
  refine ⟨by rw [zin, h0.1]; omega, rfl, ?_⟩
  rw [hnat]
  refine h _ (agu (agu ag.rf (by simp) (by decide)) (by simp) (by decide)) ⟨?_, by omega, fun i hi => ?_⟩
  · rw [u2e, zadd (by rw [z1, h0.1]; omega) (by rw [z1, h0.1]; omega), z1, h0.1]; omega
  · rw [u2n (by decide), u2_ap]
    by_cases q : i = n
    · rw [if_pos ⟨rfl, q⟩, q]; exact hx
    · rw [if_neg (fun z => q z.2)]; exact h0.2.2 i (by omega)
theorem tX10_goerAt {x : Int32} {o : Nat → Nat} {n i : Nat} (h0 : Od I o n) (hx : x.toInt = i) (hi : i < n) (h : ∀ r : Int32, r.toInt = o i → Q r I L) : cI G l mX10_goerAt (d + 1) [.ref 31, .int x] I L Q := by
  refine wX10_goerAt_ok ?_
  unfold wX10_goerAt
  have := h0.2.1
  rw [if_neg (by rw [zlt, z0]; omega), if_neg (by rw [zle, h0.1]; omega), if_neg (by rw [zle, zl_10]; omega)]
  refine ⟨by rw [zin]; omega, ri (h _ ?_)⟩
  have e : x.toNatClampNeg = i := by rw [znat]; omega
  rw [e]
  exact h0.2.2 i hi
theorem Od.ag {S T : List Nat} {I' : jS} {o : Nat → Nat} {n : Nat} (h : Od I o n) (ha : ag S T I I') (h1 : S.contains 31 = false) (h2 : S.contains 35 = false) : Od I' o n := by
  unfold Od
  rw [ha.1 31 (by decide) (by simpa using h1), ha.1 35 (by decide) (by simpa using h2)]
  exact h
/-- the row of bytes that a shelf holds -/
def shf8 (L : jL) (e : Nat) : Nat → Int := fun i => (L (62 + e) i).toInt
def ByR (I : jS) (L : jL) (e : Nat) : Prop := e < 6 ∧ I 58 e = 0 ∧ (I 89 e).toInt = 50 ∧ I 90 e = I 59 e ∧ (0 ≤ (I 59 e).toInt ∧ (I 59 e).toInt ≤ 60) ∧ ∀ j, j < 60 → L 91 (60 * e + j) = L (62 + e) j ∧ -128 ≤ (L (62 + e) j).toInt ∧ (L (62 + e) j).toInt ≤ 127
theorem ByR.ag {S T : List Nat} {I' : jS} {e : Nat} (h : ByR I L e) (ha : ag S T I I') (hn : noSh S = true) : ByR I' L e := by
  have e' : ∀ r, r ∈ [58, 59, 60, 68, 89, 90] → I' r = I r := fun r hr => ha.1 r (fun q => by subst q; revert hr; decide) (no_S hn hr)
  unfold ByR
  rw [e' 58 (by decide), e' 59 (by decide), e' 89 (by decide), e' 90 (by decide)]
  exact h
theorem InvS.byr {e : Nat} (h : InvS I L) (hA : (I 68 2).toInt ≤ 50) (he : e < 6) (h50 : (I 89 e).toInt = 50) : ByR I L e := by
  obtain ⟨n1, n2, n3, n4⟩ := InvS_neg h hA he
  have h0 := n4.mpr h50
  have t := n3 (by rw [h0]; decide)
  refine ⟨he, h0, h50, t.2.2.1, t.2.2.2, fun j hj => ⟨(h e he).2 (by rw [h0]; decide) j hj, ?_⟩⟩
  rcases (h e he).1 with o | o | o
  · rw [o.1] at h0; exact absurd h0 (by decide)
  · rw [o.1] at h0; exact absurd h0 (by decide)
  · exact o.2.2.2.2.2.2.2 h0 j hj
theorem tX10_readOrder {x y : Int32} {e mo : Nat} (hF : Fr G l F g p I) (hB : ByR I L e) (hx : x.toInt = e) (hy : y.toInt = mo) (hm : mo ≤ 10)
    (h : ∀ I', ag [31, 35] [] I I' → Od I' (fun i => (shf8 L e i).toNat) (rdN (shf8 L e) g (min mo (I 59 e).toInt.toNat) 0) → Qv I' L) : cV G l mX10_readOrder (d + 4) [.ref 31, .ref 57, .int x, .int y] I L Qv := by
  have he := hB.1
  have hg := hF.1
  have hs := hB.2.2.2.2.1
  refine wX10_readOrder_ok (Q := fun v I' L' => v = none ∧ Qv I' L') ?_
  unfold wX10_readOrder
  refine tX9_sizeOf ?_
  have e59 : (u2 I 31 5 0) 59 = I 59 := u2_ne 59 (by decide)
  have exe : x.toInt.toNat = e := by omega
  rw [if_pos (show 0 ≤ x.toInt ∧ x.toInt < 6 by omega), exe, e59]
  have hlen : (if I 59 e < y then I 59 e else y).toInt = ((min mo (I 59 e).toInt.toNat : Nat) : Int) := by
    by_cases q : I 59 e < y
    · rw [if_pos q]; rw [zlt] at q; omega
    · rw [if_neg q]; rw [zlt] at q; omega
  generalize (if I 59 e < y then I 59 e else y) = len at hlen
  generalize hlm : min mo (I 59 e).toInt.toNat = lm at *
  generalize hRd : rdN (shf8 L e) g lm 0 = Rd at h
  have key : ∀ m i J, i + m = lm → ag [31, 35] [] I J → Od J (fun i => (shf8 L e i).toNat) i → rdN (shf8 L e) g m i = Rd → wX10_readOrder_19 G l (d + 3) (fun v I' L' => v = none ∧ Qv I' L') (m + 1) x len (Int32.ofNat i) J L := by
    intro m
    induction m with
    | zero =>
      intro i J hi ha hO hr
      unfold wX10_readOrder_19
      rw [if_pos (by rw [zle, hlen, zo (by omega)]; omega)]
      unfold rdN at hr
      rw [hr] at hO
      exact ⟨rfl, h J ha hO⟩
    | succ m ih =>
      intro i J hi ha hO hr
      have hFJ := hF.ag ha rfl
      unfold wX10_readOrder_19
      rw [if_neg (by rw [zle, hlen, zo (by omega)]; omega)]
      refine tX9_byteAt (by omega) (by rw [zo (by omega)]; omega) ?_
      rw [exe, zo (by omega), Int.toNat_natCast]
      have hb := hB.2.2.2.2.2 i (by omega)
      have hv : (L (62 + e) i).toInt32.toInt = shf8 L e i := b32 hb.2
      generalize (L (62 + e) i).toInt32 = v at hv
      unfold rdN at hr
      by_cases hc : 0 ≤ shf8 L e i ∧ shf8 L e i < g
      · rw [if_pos hc] at hr
        rw [if_neg (by rw [zlt, z0, hv]; omega), if_pos (by rw [zlt, hv, hFJ.2.1]; omega)]
        refine tX10_add hO (by omega) (by rw [hv]; omega) (fun J2 ha2 hO2 => ?_)
        rw [zsucc]
        exact ih (i + 1) J2 (by omega) (ha.th ha2) hO2 hr
      · rw [if_neg hc] at hr
        rw [hr] at hO
        have hfin : Qv J L := h J ha hO
        refine ife (fun _ => ⟨rfl, hfin⟩) (fun q => ?_)
        rw [zlt, z0, hv] at q
        rw [if_neg (by rw [zlt, hv, hFJ.2.1]; omega)]
        exact ⟨rfl, hfin⟩
  exact ⟨_, key lm 0 _ (by omega) (agu ag.rf (by simp) (by decide)) ⟨by rw [u2e]; rfl, by omega, fun i hi => by omega⟩ hRd⟩
/-- the class walks its order -/
theorem tX10_walk {x : Int32} {way n : Nat} {o : Nat → Nat} (hF : Fr G l F g p I) (hO : Od I o n) (ho : ∀ i, i < n → (o i : Int) < g) (hI : Ic 32 I st wk mn) (hz : zok wk mn) (hmn : mn ≤ 100000) (hst : zstok st) (hx : x.toInt = way) (hw : way < 3)
    (h : ∀ I', ag [31, 32, 34, 21, 22, 23] [] I I' → Od I' o n → (I' 31 6).toInt = (zrun F p st way o n 0 (0, -2, wk, mn)).1 → (I' 31 7).toInt = (zrun F p st way o n 0 (0, -2, wk, mn)).2.1 → Ic 32 I' st (zrun F p st way o n 0 (0, -2, wk, mn)).2.2.1 (zrun F p st way o n 0 (0, -2, wk, mn)).2.2.2 → Qv I' L) : cV G l mX10_walk (d + 6) [.ref 31, .int x] I L Qv := by
  have hn := hO.2.1
  refine wX10_walk_ok (Q := fun v I' L' => v = none ∧ Qv I' L') ?_
  unfold wX10_walk
  generalize hR : zrun F p st way o n 0 (0, -2, wk, mn) = R at h
  have key : ∀ m i J S, i + m = n → ag [31, 32, 34, 21, 22, 23] [] I J → Od J o n → (J 31 6).toInt = S.1 → (J 31 7).toInt = S.2.1 → Ic 32 J st S.2.2.1 S.2.2.2 → zRok mn i S → zrun F p st way o m i S = R → wX10_walk_13 G l (d + 5) (fun v I' L' => v = none ∧ Qv I' L') (m + 1) x (Int32.ofNat i) J L := by
    intro m
    induction m with
    | zero =>
      intro i J S hi ha hO' h6 h7 hJ hS hr
      have hr' : S = R := hr
      subst hr'
      unfold wX10_walk_13
      rw [if_pos (by rw [zle, hO'.1, zo (by omega)]; omega)]
      exact ⟨rfl, h J ha hO' h6 h7 hJ⟩
    | succ m ih =>
      intro i J S hi ha hO' h6 h7 hJ hS hr
      have hFJ := hF.ag ha rfl
      unfold wX10_walk_13
      rw [if_neg (by rw [zle, hO'.1, zo (by omega)]; omega)]
      refine tX10_goerAt hO' (zo (by omega)) (by omega) (fun r1 h1 => ?_)
      have hzS : zok S.2.2.1 S.2.2.2 := ⟨hS.2.2.1, hS.2.2.2.1, by have := hS.2.2.2.2; omega⟩
      refine tX3_cross (back := false) (by unfold isIce; decide) hFJ hJ hzS hst hx hw h1 (ho i (by omega)) (more := 0) (by decide) (by decide) rfl (fun r2 J2 h2 ha2 hJ2 => ?_)
      rw [zsucc]
      have ha3 : ag [31, 32, 34, 21, 22, 23] [] I J2 := ha.th ha2
      have hO2 := hO'.ag ha2 rfl rfl
      have e31 : J2 31 = J 31 := ha2.c 31
      have hnext := zstp_ok (st := st) hF (B := mn) ⟨hz.2.1, hmn⟩ hw (ho i (by omega)) (by omega) hS
      have hr' : zrun F p st way o m (i + 1) (zstp F p st way (o i) i S) = R := hr
      have hs1 : (zstp F p st way (o i) i S).1 = S.1 + (if (zcross F p st way (o i) 0 false S.2.2.1 S.2.2.2).1 = -1 then 1 else 0) := rfl
      have hs2 : (zstp F p st way (o i) i S).2.1 = if (zcross F p st way (o i) 0 false S.2.2.1 S.2.2.2).1 ≠ -1 ∧ S.2.1 < 0 then (i : Int) else S.2.1 := rfl
      have hs3 : (zstp F p st way (o i) i S).2.2 = (zcross F p st way (o i) 0 false S.2.2.1 S.2.2.2).2 := rfl
      rw [← hs3] at hJ2
      generalize zstp F p st way (o i) i S = S' at *
      have od' : ∀ (j : Nat) (v : Int32), j ≠ 5 → Od (u2 J2 31 j v) o n := fun j v hj => ⟨by rw [u2i (Ne.symm hj)]; exact hO2.1, hn, fun q hq => by rw [u2n (by decide)]; exact hO2.2.2 q hq⟩
      have ic' : ∀ (j : Nat) (v : Int32), Ic 32 (u2 J2 31 j v) st S'.2.2.1 S'.2.2.2 := fun j v => ⟨fun q hq => by rw [u2n (by decide)]; exact hJ2.1 q hq, fun q hq => by rw [u2n (by decide)]; exact hJ2.2.1 q hq, by rw [u2n (by decide)]; exact hJ2.2.2⟩
      have hSb := hS.1
      refine ife (fun q => ?_) (fun q => ife (fun q2 => ?_) (fun q2 => ?_))
      · rw [zeq, h2] at q
        have q : (zcross F p st way (o i) 0 false S.2.2.1 S.2.2.2).1 = -1 := q
        rw [if_pos q] at hs1
        rw [if_neg (fun z => z.1 q)] at hs2
        refine ih (i + 1) _ S' (by omega) (agu ha3 (by simp) (by decide)) (od' 6 _ (by decide)) ?_ ?_ (ic' 6 _) hnext hr'
        · rw [u2e, e31, zadd (by rw [z1, h6]; omega) (by rw [z1, h6]; omega), z1, h6, hs1]
        · rw [u2i (by decide), e31, h7, hs2]
      · rw [zeq, h2] at q
        have q : ¬ (zcross F p st way (o i) 0 false S.2.2.1 S.2.2.2).1 = -1 := q
        rw [e31, zeq, h7] at q2
        have q2 : S.2.1 = -2 := q2
        rw [if_neg q] at hs1
        rw [if_pos ⟨q, by omega⟩] at hs2
        refine ih (i + 1) _ S' (by omega) (agu ha3 (by simp) (by decide)) (od' 7 _ (by decide)) ?_ ?_ (ic' 7 _) hnext hr'
        · rw [u2i (by decide), e31, h6, hs1]; omega
        · rw [u2e, zo (by omega), hs2]
      · rw [zeq, h2] at q
        have q : ¬ (zcross F p st way (o i) 0 false S.2.2.1 S.2.2.2).1 = -1 := q
        rw [e31, zeq, h7] at q2
        have q2 : ¬ S.2.1 = -2 := q2
        have hS2 := hS.2.1
        rw [if_neg q] at hs1
        rw [if_neg (by omega)] at hs2
        refine ih (i + 1) _ S' (by omega) ha3 hO2 ?_ ?_ hJ2 hnext hr'
        · rw [e31, h6, hs1]; omega
        · rw [e31, h7, hs2]
  refine ⟨_, key n 0 (u2 (u2 I 31 6 0) 31 7 (-2)) (0, -2, wk, mn) (by omega) (agu (agu ag.rf (by simp) (by decide)) (by simp) (by decide)) ⟨?_, hn, fun i hi => ?_⟩ ?_ ?_ ⟨fun i hi => ?_, fun i hi => ?_, ?_⟩ ⟨by simp, Or.inl rfl, hz.1, hz.2.1, by simp⟩ hR⟩
  · rw [u2i (by decide), u2i (by decide)]; exact hO.1
  · rw [u2n (by decide), u2n (by decide)]; exact hO.2.2 i hi
  · rw [u2i (by decide), u2e]; rfl
  · rw [u2e]; rfl
  · rw [u2n (by decide), u2n (by decide)]; exact hI.1 i hi
  · rw [u2n (by decide), u2n (by decide)]; exact hI.2.1 i hi
  · rw [u2n (by decide), u2n (by decide)]; exact hI.2.2
end OD

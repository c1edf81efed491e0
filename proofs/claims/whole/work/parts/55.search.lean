/-! searches through all orders -/
abbrev zBS : Type := Int × List Nat
def rlo (f : Nat → zBS → zBS) : Nat → Nat → zBS → zBS
  | 0, _, S => S
  | q + 1, j, S => rlo f q (j + 1) (f j S)
/-- all ways on from a beginning, one by one; the best is kept -/
def rf (leaf : List Nat → zBS → zBS) (skip : List Nat → Nat → Bool) (b : Nat) : Nat → List Nat → zBS → zBS
  | 0, pre, S => leaf pre S
  | m + 1, pre, S => rlo (fun j S => if skip pre j = true then S else rf leaf skip b m (pre ++ [j]) S) b 0 S
theorem rl_same {f : Nat → zBS → zBS} {S : zBS} {b : Nat} (h : ∀ j, j < b → f j S = S) : ∀ q j, j + q ≤ b → rlo f q j S = S := by
  intro q
  induction q with
  | zero => intro j _; rfl
  | succ q ih => intro j hj; unfold rlo; rw [h j (by omega)]; exact ih (j + 1) (by omega)
theorem rf_same {leaf : List Nat → zBS → zBS} {skip : List Nat → Nat → Bool} {b : Nat} (P : Nat → List Nat → zBS → Prop) (h0 : ∀ pre S, P 0 pre S → leaf pre S = S) (h1 : ∀ m pre S j, j < b → P (m + 1) pre S → P m (pre ++ [j]) S) : ∀ m pre S, P m pre S → rf leaf skip b m pre S = S := by
  intro m
  induction m with
  | zero => intro pre S h; exact h0 pre S h
  | succ m ih =>
    intro pre S h
    unfold rf
    refine rl_same (b := b) (fun j hj => ?_) b 0 (by omega)
    by_cases q : skip pre j = true
    · rw [if_pos q]
    · rw [if_neg q]; exact ih _ _ (h1 m pre S j hj h)
theorem rl_inv {f : Nat → zBS → zBS} {b : Nat} (Pv : zBS → Prop) (h : ∀ j S, j < b → Pv S → Pv (f j S)) : ∀ q j S, j + q ≤ b → Pv S → Pv (rlo f q j S) := by
  intro q
  induction q with
  | zero => intro j S _ hS; exact hS
  | succ q ih => intro j S hj hS; unfold rlo; exact ih (j + 1) _ (by omega) (h j S (by omega) hS)
theorem rf_inv {leaf : List Nat → zBS → zBS} {skip : List Nat → Nat → Bool} {b N : Nat} (Pv : zBS → Prop) (h : ∀ pre S, pre.length = N → (∀ n ∈ pre, n < b) → Pv S → Pv (leaf pre S)) : ∀ m pre S, pre.length + m = N → (∀ n ∈ pre, n < b) → Pv S → Pv (rf leaf skip b m pre S) := by
  intro m
  induction m with
  | zero => intro pre S h1 h2 h3; exact h pre S (by omega) h2 h3
  | succ m ih =>
    intro pre S h1 h2 h3
    unfold rf
    refine rl_inv (b := b) Pv (fun j S hj hS => ?_) b 0 S (by omega) h3
    by_cases q : skip pre j = true
    · rw [if_pos q]; exact hS
    · rw [if_neg q]
      refine ih _ S (by rw [List.length_append]; simp; omega) (fun n hn => ?_) hS
      rcases List.mem_append.mp hn with z | z
      · exact h2 n z
      · have := List.mem_singleton.mp z; omega
theorem rl_mono {f : Nat → zBS → zBS} (h : ∀ j S, S.1 ≤ (f j S).1) : ∀ q j S, S.1 ≤ (rlo f q j S).1 := by
  intro q
  induction q with
  | zero => intro j S; exact Int.le_refl _
  | succ q ih => intro j S; unfold rlo; exact Int.le_trans (h j S) (ih (j + 1) _)
theorem rf_mono {leaf : List Nat → zBS → zBS} {skip : List Nat → Nat → Bool} {b : Nat} (h : ∀ pre S, S.1 ≤ (leaf pre S).1) : ∀ m pre S, S.1 ≤ (rf leaf skip b m pre S).1 := by
  intro m
  induction m with
  | zero => intro pre S; exact h pre S
  | succ m ih =>
    intro pre S
    unfold rf
    refine rl_mono (fun j S => ?_) b 0 S
    by_cases q : skip pre j = true
    · rw [if_pos q]; exact Int.le_refl _
    · rw [if_neg q]; exact ih _ _
def skM (pre : List Nat) (j : Nat) : Bool := decide (j ∈ pre)
theorem rf_range {leaf : List Nat → zBS → zBS} {b : Nat} (h : ∀ pre S, S.1 ≤ (leaf pre S).1) (h0 : ∀ pre S, 0 ≤ (leaf pre S).1) : ∀ m i S, i + m = b → 0 ≤ (rf leaf skM b m (List.range i) S).1 := by
  intro m
  induction m with
  | zero => intro i S _; exact h0 _ S
  | succ m ih =>
    intro i S hi
    unfold rf
    have hmono : ∀ (j : Nat) (S : zBS), S.1 ≤ ((fun j S => if skM (List.range i) j = true then S else rf leaf skM b m (List.range i ++ [j]) S) j S).1 := fun j S => by
      simp only
      by_cases q : skM (List.range i) j = true
      · rw [if_pos q]; exact Int.le_refl _
      · rw [if_neg q]; exact rf_mono h _ _ _
    have key : ∀ q j S, j + q = b → j ≤ i → 0 ≤ (rlo (fun j S => if skM (List.range i) j = true then S else rf leaf skM b m (List.range i ++ [j]) S) q j S).1 := by
      intro q
      induction q with
      | zero => intro j S h1 h2; omega
      | succ q ihq =>
        intro j S h1 h2
        unfold rlo
        by_cases e : j = i
        · subst e
          have hs : ¬ skM (List.range j) j = true := by unfold skM; simp
          refine Int.le_trans ?_ (rl_mono hmono q (j + 1) _)
          rw [if_neg hs, ← List.range_succ]
          exact ih (j + 1) S (by omega)
        · exact ihq (j + 1) _ (by omega) (by omega)
    exact key b 0 S (by omega) (by omega)
theorem zL_nn {F : Option lF} {p : Nat → Nat → Int} {st : Nat → Int} {way : Nat} : ∀ (l : List Nat) (S : zT), S.1 ≤ (zL F p st way l S).1 ∧ (zL F p st way l S).1 ≤ S.1 + l.length := by
  intro l
  induction l with
  | nil => intro S; unfold zL; simp
  | cons n t ih =>
    intro S
    unfold zL
    have := ih (S.1 + (if (zcross F p st way n 0 false S.2.1 S.2.2).1 = -1 then 1 else 0), (zcross F p st way n 0 false S.2.1 S.2.2).2.1, (zcross F p st way n 0 false S.2.1 S.2.2).2.2)
    simp only [List.length_cons] at this ⊢
    by_cases q : (zcross F p st way n 0 false S.2.1 S.2.2).1 = -1
    · rw [if_pos q] at this ⊢; omega
    · rw [if_neg q] at this ⊢; omega
def TO (F : Option lF) (p : Nat → Nat → Int) (I : jS) (way : Nat) (pre : List Nat) : zT := zL F p (p 0) way pre (0, dwk I, (I 25 2).toInt)
def lfA (F : Option lF) (p : Nat → Nat → Int) (I : jS) (way : Nat) (pre : List Nat) (S : zBS) : zBS := if S.1 < (TO F p I way pre).1 then ((TO F p I way pre).1, pre) else S
theorem TO_snoc {F : Option lF} {p : Nat → Nat → Int} {I : jS} {way : Nat} {pre : List Nat} {j : Nat} : TO F p I way (pre ++ [j]) = ((TO F p I way pre).1 + (if (zcross F p (p 0) way j 0 false (TO F p I way pre).2.1 (TO F p I way pre).2.2).1 = -1 then 1 else 0), (zcross F p (p 0) way j 0 false (TO F p I way pre).2.1 (TO F p I way pre).2.2).2) := by
  unfold TO
  rw [zL_append]
  rfl
theorem TO_b {F : Option lF} {p : Nat → Nat → Int} {I : jS} {way : Nat} {pre : List Nat} : 0 ≤ (TO F p I way pre).1 ∧ (TO F p I way pre).1 ≤ pre.length := by
  have := zL_nn (F := F) (p := p) (st := p 0) (way := way) pre (0, dwk I, (I 25 2).toInt)
  unfold TO
  simp only at this
  omega
theorem lfA_prune {F : Option lF} {p : Nat → Nat → Int} {I : jS} {way b m : Nat} {skip : List Nat → Nat → Bool} {pre : List Nat} {S : zBS} (h : (TO F p I way pre).1 + m ≤ S.1) : rf (lfA F p I way) skip b m pre S = S := by
  refine rf_same (fun m pre S => (TO F p I way pre).1 + m ≤ S.1) (fun pre S h => ?_) (fun m pre S j _ h => ?_) m pre S h
  · unfold lfA
    rw [if_neg (by omega)]
  · rw [TO_snoc]
    simp only
    by_cases q : (zcross F p (p 0) way j 0 false (TO F p I way pre).2.1 (TO F p I way pre).2.2).1 = -1
    · rw [if_pos q]; omega
    · rw [if_neg q]; omega
theorem mem42 {t : Nat} (h : t < 7) : 42 + t ∈ scC := by
  have : t = 0 ∨ t = 1 ∨ t = 2 ∨ t = 3 ∨ t = 4 ∨ t = 5 ∨ t = 6 := by omega
  rcases this with rfl | rfl | rfl | rfl | rfl | rfl | rfl <;> decide
theorem getD_snoc' {l : List Nat} {x i : Nat} (h : i < l.length + 1) : (l ++ [x]).getD i 0 = if i < l.length then l.getD i 0 else x := by
  rw [getD_snoc]
  by_cases q : i < l.length
  · rw [if_pos q, if_pos q]
  · rw [if_neg q, if_neg q, if_pos (by omega)]
section SE
variable {G : jG} {l : Launch} {d k : Nat} {F : Option lF} {g : Int} {p : Nat → Nat → Int} {I : jS} {L : jL} {st wk : Nat → Int} {mn : Int} {Q : Int32 → jS → jL → Prop} {Qv : jS → jL → Prop} {K : Int32 → Int32 → jS → jL → Prop}
theorem btN_or {u : Int32} {pre : List Nat} {j : Nat} (h : btN u (fun x => x ∈ pre)) (hj : j < 8) : btN (u ||| (1 <<< (Int32.ofNat j &&& 31))) (fun x => x ∈ pre ++ [j]) := fun t ht => by
  rw [bt_or, Bool.or_eq_true, bt_shl hj ht, decide_eq_true_iff, h t ht]
  show t ∈ pre ∨ t = j ↔ t ∈ pre ++ [j]
  rw [List.mem_append, List.mem_singleton]
theorem tX8_save {x : Int32} {t : Nat} (hx : x.toInt = t) (ht : t < 7) (h : Qv (cpk I (42 + t) 40 24) L) : cV G l mX8_save (d + 1) [.ref 37, .int x] I L Qv := by
  refine wX8_save_ok (Q := fun v I' L' => v = none ∧ Qv I' L') ?_
  unfold wX8_save
  have e : x.toNatClampNeg = t := by rw [znat]; omega
  refine ⟨by rw [zin]; omega, jcok0 (n := 24) (by decide) (by decide) (by decide), rfl, ?_⟩
  rw [jcpy_cpk (n := 24) (by decide), e]
  exact h
theorem tX8_restore {x y : Int32} {t : Nat} (hx : x.toInt = t) (ht : t < 7) (h : Qv (u2 (cpk I 40 (42 + t) 24) 38 2 y) L) : cV G l mX8_restore (d + 1) [.ref 37, .int x, .int y] I L Qv := by
  refine wX8_restore_ok (Q := fun v I' L' => v = none ∧ Qv I' L') ?_
  unfold wX8_restore
  have e : x.toNatClampNeg = t := by rw [znat]; omega
  refine ⟨by rw [zin]; omega, jcok0 (n := 24) (by decide) (by decide) (by decide), rfl, ?_⟩
  rw [jcpy_cpk (n := 24) (by decide), e]
  exact h
theorem tX8_keepAs {x : Int32} (h : Qv (cpk (u2 I 37 6 x) 50 49 7) L) : cV G l mX8_keepAs (d + 1) [.ref 37, .int x] I L Qv := by
  refine wX8_keepAs_ok (Q := fun v I' L' => v = none ∧ Qv I' L') ?_
  unfold wX8_keepAs
  refine ⟨jcok0 (n := 7) (by decide) (by decide) (by decide), rfl, ?_⟩
  rw [jcpy_cpk (n := 7) (by decide)]
  exact h
/-- what the class's search has found -/
def KC (gn : Nat) (J : jS) (S : zBS) : Prop := (J 37 6).toInt = S.1 ∧ (S.1 ≠ -1 → ∀ i, i < gn → (J 50 i).toInt = S.2.getD i 0)
theorem KC.cg {gn : Nat} {J J' : jS} {S : zBS} (h : KC gn J S) (h1 : J' 37 = J 37) (h2 : J' 50 = J 50) : KC gn J' S := by
  unfold KC
  rw [h1, h2]
  exact h
theorem tX8_tryOrders {x1 : Int32} {way gn : Nat} (hF : Fr G l F g p I) (hz : zok (dwk I) (I 25 2).toInt) (hmn : (I 25 2).toInt ≤ 100000) (hgn : g = gn) (hx : x1.toInt = way) (hw : way < 3) : ∀ (m : Nat) (pre : List Nat) (S : zBS) (J : jS) (x2 x3 x4 : Int32) (Qv : jS → jL → Prop), pre.length + m = gn → (∀ n ∈ pre, n < gn) → ag scC [] I J → Ic 38 J (p 0) (TO F p I way pre).2.1 (TO F p I way pre).2.2 → x2.toInt = pre.length → btN x3 (fun j => j ∈ pre) → x4.toInt = (TO F p I way pre).1 → (∀ i, i < pre.length → (J 49 i).toInt = pre.getD i 0) → KC gn J S →
    (∀ J', ag scC [] I J' → (∀ s, s < 24 → (J' 39 s).toInt = p 0 s) → (∀ t, t < pre.length → J' (42 + t) = J (42 + t)) → (∀ i, i < pre.length → J' 49 i = J 49 i) → KC gn J' (rf (lfA F p I way) skM gn m pre S) → Qv J' L) → cV G l mX8_tryOrders (d + m + 7) [.ref 37, .int x1, .int x2, .int x3, .int x4] J L Qv := by
  have hg := hF.1
  have i38 : isIce 38 := by unfold isIce; decide
  intro m
  induction m with
  | zero =>
    intro pre S J x2 x3 x4 Qv hlen hpre ha hJ h2 h3 h4 h49 hK hQ
    have hFJ := hF.ag ha rfl
    have e11 : (J 1 1).toInt = gn := by rw [hFJ.2.1, hgn]
    have hT := TO_b (F := F) (p := p) (I := I) (way := way) (pre := pre)
    have e1 : (x4 + J 1 1).toInt = (TO F p I way pre).1 + gn := by rw [zadd (by rw [h4, e11]; omega) (by rw [h4, e11]; omega), h4, e11]
    have e2 : (x4 + J 1 1 - x2).toInt = (TO F p I way pre).1 := by rw [zsub (by rw [e1, h2]; omega) (by rw [e1, h2]; omega), e1, h2]; omega
    refine wX8_tryOrders_ok (Q := fun v I' L' => v = none ∧ Qv I' L') ?_
    unfold wX8_tryOrders
    refine ife (fun q => ?_) (fun q => ⟨rfl, ?_⟩)
    · rw [zlt, e2, hK.1] at q
      rw [if_pos (by rw [zle, e11, h2]; omega)]
      unfold wX8_tryOrders_37
      refine tX8_keepAs ⟨rfl, hQ _ (agc (agu ha (by decide) (by decide)) (by decide) (by decide)) (fun s hs => ?_) (fun t ht => ?_) (fun i hi => ?_) ?_⟩
      · rw [cpk_ne (by decide), u2n (by decide)]; exact hJ.1 s hs
      · rw [cpk_ne (by omega), u2_ne _ (by omega)]
      · rw [cpk_ne (by decide), u2n (by decide)]
      · unfold rf lfA
        rw [if_pos q]
        refine ⟨?_, fun _ i hi => ?_⟩
        · rw [cpk_ne (by decide), u2e]; exact h4
        · rw [cpk_eq (by omega), u2n (by decide)]; exact h49 i (by omega)
    · rw [zlt, e2, hK.1] at q
      refine hQ J ha hJ.1 (fun _ _ => rfl) (fun _ _ => rfl) ?_
      rw [lfA_prune (by omega)]
      exact hK
  | succ m ih =>
    intro pre S J x2 x3 x4 Qv hlen hpre ha hJ h2 h3 h4 h49 hK hQ
    have hFJ := hF.ag ha rfl
    have e11 : (J 1 1).toInt = gn := by rw [hFJ.2.1, hgn]
    have hT := TO_b (F := F) (p := p) (I := I) (way := way) (pre := pre)
    have hok := zL_ok (st := p 0) hF (B := (I 25 2).toInt) ⟨hz.2.1, hmn⟩ hw pre 0 (0, dwk I, (I 25 2).toInt) (by omega) (fun n hn => by have := hpre n hn; omega) ⟨by simp, hz.1, hz.2.1, by simp⟩
    have hok : zTok (I 25 2).toInt (0 + pre.length) (TO F p I way pre) := hok
    have hsn := fun j => TO_snoc (F := F) (p := p) (I := I) (way := way) (pre := pre) (j := j)
    have e1 : (x4 + J 1 1).toInt = (TO F p I way pre).1 + gn := by rw [zadd (by rw [h4, e11]; omega) (by rw [h4, e11]; omega), h4, e11]
    have e2 : (x4 + J 1 1 - x2).toInt = (TO F p I way pre).1 + (m + 1 : Nat) := by rw [zsub (by rw [e1, h2]; omega) (by rw [e1, h2]; omega), e1, h2]; omega
    rw [show d + (m + 1) + 7 = (d + m + 7) + 1 by omega]
    refine wX8_tryOrders_ok (Q := fun v I' L' => v = none ∧ Qv I' L') ?_
    unfold wX8_tryOrders
    refine ife (fun q => ?a) (fun q => ⟨rfl, ?b⟩)
    case b =>
      rw [zlt, e2, hK.1] at q
      refine hQ J ha hJ.1 (fun _ _ => rfl) (fun _ _ => rfl) ?_
      rw [lfA_prune (by omega)]
      exact hK
    rw [if_neg (by rw [zle, e11, h2]; omega), if_pos (by rw [zlt, zl_7, h2]; omega)]
    have hlt : pre.length < 7 := by omega
    refine tX8_save h2 hlt ?_
    have hn2 : x2.toNatClampNeg = pre.length := by rw [znat]; omega
    have hin2 : vp_in x2 7 := by rw [zin]; omega
    generalize hRd : rf (lfA F p I way) skM gn (m + 1) pre S = R at hQ
    unfold rf at hRd
    have loop : ∀ (q j : Nat) (N : jS) (S' : zBS), j + q = gn → ag scC [] I N → Ic 38 N (p 0) (TO F p I way pre).2.1 (TO F p I way pre).2.2 → (∀ s, s < 24 → (N (42 + pre.length) s).toInt = (TO F p I way pre).2.1 s) → (∀ t, t < pre.length → N (42 + t) = J (42 + t)) → (∀ i, i < pre.length → N 49 i = J 49 i) → KC gn N S' → rlo (fun j S => if skM pre j = true then S else rf (lfA F p I way) skM gn m (pre ++ [j]) S) q j S' = R → wX8_tryOrders_61 G l (d + m + 7) (fun v I' L' => v = none ∧ Qv I' L') (q + 1) x1 x2 x3 x4 (J 38 2) (Int32.ofNat j) N L := by
      intro q
      induction q with
      | zero =>
        intro j N S' hj haN hN hsv h42 hN49 hKN hr
        have hFN := hF.ag haN rfl
        have hr' : S' = R := hr
        subst hr'
        unfold wX8_tryOrders_61
        rw [if_pos (by rw [zle, hFN.2.1, zo (by omega)]; omega)]
        exact ⟨rfl, hQ N haN hN.1 h42 hN49 hKN⟩
      | succ q ihq =>
        intro j N S' hj haN hN hsv h42 hN49 hKN hr
        have hFN := hF.ag haN rfl
        unfold rlo at hr
        unfold wX8_tryOrders_61
        rw [if_neg (by rw [zle, hFN.2.1, zo (by omega)]; omega)]
        have hbit : ((x3 >>> (Int32.ofNat j &&& 31)) &&& 1 = 1) ↔ j ∈ pre := (bitP_bt (x := x3) (k := j) (by omega)).trans (h3 j (by omega))
        refine ife (fun c => ?_) (fun c => ?_)
        · rw [hbit] at c
          rw [if_pos (show skM pre j = true by unfold skM; exact decide_eq_true c)] at hr
          rw [zsucc]
          exact ihq (j + 1) N S' (by omega) haN hN hsv h42 hN49 hKN hr
        · rw [hbit] at c
          rw [if_neg (show ¬ skM pre j = true by unfold skM; rw [decide_eq_true_iff]; exact c)] at hr
          refine ⟨hin2, ?_⟩
          rw [hn2]
          have hau : ag [49] [] N (u2 N 49 pre.length (Int32.ofNat j)) := agu ag.rf (by simp) (by decide)
          have hb1 : ag scC [] I (u2 N 49 pre.length (Int32.ofNat j)) := haN.cl hau
          refine tX3_cross (back := false) i38 (hF.ag hb1 rfl) (hN.ag i38 hau (by decide) (by decide) (by decide)) ⟨hok.2.1, hok.2.2.1, by have := hok.2.2.2; omega⟩ (zst0 hF) hx hw (zo (k := j) (by omega)) (by omega) (more := 0) (by decide) (by decide) rfl (fun r2 N2 hr2 ha2 hN2 => ?_)
          have hb2 : ag scC [] I N2 := hb1.cl ha2
          have e37 : N2 37 = N 37 := by rw [ha2.c 37, hau.c 37]
          have e50 : N2 50 = N 50 := by rw [ha2.c 50, hau.c 50]
          have e42 : ∀ t, t < 7 → N2 (42 + t) = N (42 + t) := fun t ht => by
            rw [ha2.1 (42 + t) (by omega) (by simp; omega), hau.1 (42 + t) (by omega) (by simp; omega)]
          have e49 : ∀ i, N2 49 i = if i = pre.length then Int32.ofNat j else N 49 i := fun i => by
            rw [ha2.c 49, u2_ap]
            by_cases e : i = pre.length
            · rw [if_pos ⟨rfl, e⟩, if_pos e]
            · rw [if_neg (fun z => e z.2), if_neg e]
          have tail : ∀ t0 : Int32, t0.toInt = (if (zcross F p (p 0) way j 0 false (TO F p I way pre).2.1 (TO F p I way pre).2.2).1 = -1 then 1 else 0) → wX8_tryOrders_119 G l (d + m + 7) (fun z0 z1 z2 z3 z4 z5 I L => wX8_tryOrders_61 G l (d + m + 7) (fun v I' L' => v = none ∧ Qv I' L') (q + 1) z0 z1 z2 z3 z4 z5 I L) (fun v I' L' => v = none ∧ Qv I' L') x1 x2 x3 x4 (J 38 2) (Int32.ofNat j) t0 N2 L := fun t0 ht0 => by
            have ht2 : 0 ≤ t0.toInt ∧ t0.toInt ≤ 1 := by
              rw [ht0]
              by_cases z : (zcross F p (p 0) way j 0 false (TO F p I way pre).2.1 (TO F p I way pre).2.2).1 = -1
              · rw [if_pos z]; omega
              · rw [if_neg z]; omega
            unfold wX8_tryOrders_119
            refine ih (pre ++ [j]) S' N2 _ _ _ _ (by rw [List.length_append]; simp; omega) (fun n hn => ?_) hb2 (by rw [hsn j]; exact hN2) ?_ (btN_or h3 (by omega)) ?_ (fun i hi => ?_) (hKN.cg e37 e50) (fun N3 ha3 h39 h42' h49' hK3 => ?_)
            · rcases List.mem_append.mp hn with z | z
              · exact hpre n z
              · have := List.mem_singleton.mp z; omega
            · rw [zadd (by rw [h2, z1]; omega) (by rw [h2, z1]; omega), h2, z1, List.length_append]; simp
            · rw [zadd (by rw [h4]; omega) (by rw [h4]; omega), h4, hsn j, ht0]
            · rw [List.length_append] at hi
              simp only [List.length_cons, List.length_nil] at hi
              rw [e49 i, getD_snoc' (by omega)]
              by_cases e : i = pre.length
              · rw [if_pos e, if_neg (by omega), zo (by omega)]
              · rw [if_neg e, if_pos (by omega), hN49 i (by omega)]; exact h49 i (by omega)
            · have hl1 : (pre ++ [j]).length = pre.length + 1 := by simp
              rw [hl1] at h42' h49'
              refine tX8_restore h2 hlt ?_
              rw [zsucc]
              refine ihq (j + 1) _ _ (by omega) (agu (agc ha3 (by decide) (by decide)) (by decide) (by decide)) ⟨fun s hs => ?_, fun s hs => ?_, ?_⟩ (fun s hs => ?_) (fun t ht => ?_) (fun i hi => ?_) (hK3.cg ?_ ?_) hr
              · rw [u2n (by decide), cpk_ne (by decide)]; exact h39 s hs
              · rw [u2n (by decide), cpk_eq hs, h42' pre.length (by omega), e42 pre.length hlt]; exact hsv s hs
              · rw [u2e]; exact hJ.2.2
              · rw [u2n (by omega), cpk_ne (by omega), h42' pre.length (by omega), e42 pre.length hlt]; exact hsv s hs
              · rw [u2_ne _ (by omega), cpk_ne (by omega), h42' t (by omega), e42 t (by omega)]; exact h42 t ht
              · rw [u2n (by decide), cpk_ne (by decide), h49' i (by omega), e49 i, if_neg (by omega)]; exact hN49 i hi
              · rw [u2_ne _ (by decide), cpk_ne (by decide)]
              · rw [u2_ne _ (by decide), cpk_ne (by decide)]
          refine ife (fun z => tail _ ?_) (fun z => tail _ ?_)
          · rw [zeq, hr2, zl_m1] at z
            rw [if_pos z]; rfl
          · rw [zeq, hr2, zl_m1] at z
            rw [if_neg z]; rfl
    have m42 := mem42 hlt
    refine ⟨_, loop gn 0 _ S (by omega) (agc ha m42 (by omega)) ⟨fun s hs => ?_, fun s hs => ?_, ?_⟩ (fun s hs => ?_) (fun t ht => ?_) (fun i hi => ?_) (hK.cg ?_ ?_) hRd⟩
    · rw [cpk_ne (by omega)]; exact hJ.1 s hs
    · rw [cpk_ne (by omega)]; exact hJ.2.1 s hs
    · rw [cpk_ne (by omega)]; exact hJ.2.2
    · rw [cpk_eq hs]; exact hJ.2.1 s hs
    · rw [cpk_ne (by omega)]
    · rw [cpk_ne (by omega)]
    · rw [cpk_ne (by omega)]
    · rw [cpk_ne (by omega)]
end SE

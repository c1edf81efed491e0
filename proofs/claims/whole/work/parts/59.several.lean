/-! several -/
def skF (_ : List Nat) (_ : Nat) : Bool := false
def zV (F : Option lF) (p : Nat → Nat → Int) (st : Nat → Int) : List Nat → Nat → zT → zT
  | [], _, S => S
  | w :: t, i, S => zV F p st t (i + 1) (S.1 + (if (zcross F p st w i 0 false S.2.1 S.2.2).1 = -1 then 1 else 0), (zcross F p st w i 0 false S.2.1 S.2.2).2.1, (zcross F p st w i 0 false S.2.1 S.2.2).2.2)
theorem zV_append {F : Option lF} {p : Nat → Nat → Int} {st : Nat → Int} : ∀ (a b : List Nat) (i : Nat) (S : zT), zV F p st (a ++ b) i S = zV F p st b (i + a.length) (zV F p st a i S) := by
  intro a
  induction a with
  | nil => intro b i S; rfl
  | cons n t ih =>
    intro b i S
    have := ih b (i + 1) (S.1 + (if (zcross F p st n i 0 false S.2.1 S.2.2).1 = -1 then 1 else 0), (zcross F p st n i 0 false S.2.1 S.2.2).2.1, (zcross F p st n i 0 false S.2.1 S.2.2).2.2)
    rw [List.length_cons, show i + (t.length + 1) = i + 1 + t.length by omega]
    exact this
theorem zV_nn {F : Option lF} {p : Nat → Nat → Int} {st : Nat → Int} : ∀ (l : List Nat) (i : Nat) (S : zT), S.1 ≤ (zV F p st l i S).1 ∧ (zV F p st l i S).1 ≤ S.1 + l.length := by
  intro l
  induction l with
  | nil => intro i S; unfold zV; simp
  | cons n t ih =>
    intro i S
    unfold zV
    have := ih (i + 1) (S.1 + (if (zcross F p st n i 0 false S.2.1 S.2.2).1 = -1 then 1 else 0), (zcross F p st n i 0 false S.2.1 S.2.2).2.1, (zcross F p st n i 0 false S.2.1 S.2.2).2.2)
    simp only [List.length_cons] at this ⊢
    by_cases q : (zcross F p st n i 0 false S.2.1 S.2.2).1 = -1
    · rw [if_pos q] at this ⊢; omega
    · rw [if_neg q] at this ⊢; omega
def TV (F : Option lF) (p : Nat → Nat → Int) (I : jS) (pre : List Nat) : zT := zV F p (p 0) pre 0 (0, dwk I, (I 25 2).toInt)
def lfV (F : Option lF) (p : Nat → Nat → Int) (I : jS) (pre : List Nat) (S : zBS) : zBS := if S.1 < (TV F p I pre).1 then ((TV F p I pre).1, pre) else S
theorem TV_snoc {F : Option lF} {p : Nat → Nat → Int} {I : jS} {pre : List Nat} {j : Nat} : TV F p I (pre ++ [j]) = ((TV F p I pre).1 + (if (zcross F p (p 0) j pre.length 0 false (TV F p I pre).2.1 (TV F p I pre).2.2).1 = -1 then 1 else 0), (zcross F p (p 0) j pre.length 0 false (TV F p I pre).2.1 (TV F p I pre).2.2).2) := by
  unfold TV
  rw [zV_append, Nat.zero_add]
  rfl
theorem TV_b {F : Option lF} {p : Nat → Nat → Int} {I : jS} {pre : List Nat} : 0 ≤ (TV F p I pre).1 ∧ (TV F p I pre).1 ≤ pre.length := by
  have := zV_nn (F := F) (p := p) (st := p 0) pre 0 (0, dwk I, (I 25 2).toInt)
  unfold TV
  simp only at this
  omega
theorem lfV_prune {F : Option lF} {p : Nat → Nat → Int} {I : jS} {b m : Nat} {skip : List Nat → Nat → Bool} {pre : List Nat} {S : zBS} (h : (TV F p I pre).1 + m ≤ S.1) : rf (lfV F p I) skip b m pre S = S := by
  refine rf_same (fun m pre S => (TV F p I pre).1 + m ≤ S.1) (fun pre S h => ?_) (fun m pre S j _ h => ?_) m pre S h
  · unfold lfV
    rw [if_neg (by omega)]
  · rw [TV_snoc]
    simp only
    by_cases q : (zcross F p (p 0) j pre.length 0 false (TV F p I pre).2.1 (TV F p I pre).2.2).1 = -1
    · rw [if_pos q]; omega
    · rw [if_neg q]; omega
theorem rl_add {f : Nat → zBS → zBS} : ∀ a b j S, rlo f (a + b) j S = rlo f b (j + a) (rlo f a j S) := by
  intro a
  induction a with
  | zero => intro b j S; rw [Nat.zero_add]; rfl
  | succ a ih =>
    intro b j S
    rw [show a + 1 + b = (a + b) + 1 by omega]
    show rlo f (a + b) (j + 1) (f j S) = rlo f b (j + (a + 1)) (rlo f a (j + 1) (f j S))
    rw [ih b (j + 1) (f j S), show j + 1 + a = j + (a + 1) by omega]
/-- the digits of a number, by threes -/
def dg : Nat → Nat → List Nat
  | 0, _ => []
  | t + 1, c => dg t (c / 3) ++ [c % 3]
theorem dg_len : ∀ t c, (dg t c).length = t := by
  intro t
  induction t with
  | zero => intro c; rfl
  | succ t ih => intro c; unfold dg; rw [List.length_append, ih]; rfl
theorem dg_lt : ∀ t c, ∀ n ∈ dg t c, n < 3 := by
  intro t
  induction t with
  | zero => intro c n hn; exact absurd hn (by unfold dg; simp)
  | succ t ih =>
    intro c n hn
    unfold dg at hn
    rcases List.mem_append.mp hn with z | z
    · exact ih _ n z
    · have := List.mem_singleton.mp z; omega
theorem dg_get : ∀ t c k, k < t → (dg t c).getD k 0 = c / 3 ^ (t - 1 - k) % 3 := by
  intro t
  induction t with
  | zero => intro c k hk; omega
  | succ t ih =>
    intro c k hk
    unfold dg
    rw [getD_snoc' (by rw [dg_len]; omega), dg_len]
    by_cases q : k < t
    · rw [if_pos q, ih (c / 3) k q, Nat.div_div_eq_div_mul, show t + 1 - 1 - k = (t - 1 - k) + 1 by omega, Nat.pow_succ, Nat.mul_comm]
    · rw [if_neg q, show t + 1 - 1 - k = 0 by omega]; simp
theorem rl_rf {leaf : List Nat → zBS → zBS} : ∀ m t v S, rlo (fun c S => leaf (dg (t + m) c) S) (3 ^ m) (v * 3 ^ m) S = rf leaf skF 3 m (dg t v) S := by
  intro m
  induction m with
  | zero =>
    intro t v S
    have e : v * 3 ^ 0 = v := by simp
    rw [e]
    rfl
  | succ m ih =>
    intro t v S
    have e3 : 3 ^ (m + 1) = 3 ^ m + (3 ^ m + 3 ^ m) := by rw [Nat.pow_succ]; omega
    have ev : v * 3 ^ (m + 1) = (3 * v) * 3 ^ m := by rw [Nat.pow_succ, Nat.mul_comm 3 v, Nat.mul_assoc, Nat.mul_comm (3 ^ m) 3]
    have e1 : (3 * v) * 3 ^ m + 3 ^ m = (3 * v + 1) * 3 ^ m := by rw [Nat.add_mul, Nat.one_mul]
    have e2 : (3 * v + 1) * 3 ^ m + 3 ^ m = (3 * v + 2) * 3 ^ m := by rw [show 3 * v + 2 = (3 * v + 1) + 1 by omega, Nat.add_mul (3 * v + 1) 1, Nat.one_mul]
    have et : t + (m + 1) = (t + 1) + m := by omega
    have d0 : dg (t + 1) (3 * v) = dg t v ++ [0] := by
      have a : 3 * v / 3 = v := by omega
      have b : 3 * v % 3 = 0 := by omega
      show dg t (3 * v / 3) ++ [3 * v % 3] = _
      rw [a, b]
    have d1 : dg (t + 1) (3 * v + 1) = dg t v ++ [1] := by
      have a : (3 * v + 1) / 3 = v := by omega
      have b : (3 * v + 1) % 3 = 1 := by omega
      show dg t ((3 * v + 1) / 3) ++ [(3 * v + 1) % 3] = _
      rw [a, b]
    have d2 : dg (t + 1) (3 * v + 2) = dg t v ++ [2] := by
      have a : (3 * v + 2) / 3 = v := by omega
      have b : (3 * v + 2) % 3 = 2 := by omega
      show dg t ((3 * v + 2) / 3) ++ [(3 * v + 2) % 3] = _
      rw [a, b]
    rw [ev, e3, rl_add, rl_add, et, ih (t + 1) (3 * v) S, e1, ih (t + 1) (3 * v + 1), e2, ih (t + 1) (3 * v + 2), d0, d1, d2]
    rfl
theorem rf_pos {leaf : List Nat → zBS → zBS} (h0 : ∀ pre S, 0 ≤ (leaf pre S).1) : ∀ m pre S, 0 ≤ (rf leaf skF 3 m pre S).1 := by
  intro m
  induction m with
  | zero => intro pre S; exact h0 pre S
  | succ m ih => intro pre S; exact ih (pre ++ [2]) _
section SV
variable {G : jG} {l : Launch} {d k : Nat} {F : Option lF} {g : Int} {p : Nat → Nat → Int} {I : jS} {L : jL} {st wk : Nat → Int} {mn : Int} {Q : Int32 → jS → jL → Prop} {Qv : jS → jL → Prop} {K : Int32 → Int32 → jS → jL → Prop}
theorem zV_ok (hF : Fr G l F g p I) {B : Int} (hB : 0 ≤ B ∧ B ≤ 100000) : ∀ (ls : List Nat) i (S : zT), (i + ls.length : Nat) ≤ g → (∀ n ∈ ls, n < 3) → zTok B i S → zTok B (i + ls.length) (zV F p st ls i S) := by
  have hg := hF.1
  intro ls
  induction ls with
  | nil => intro i S _ _ h; exact h
  | cons n t ih =>
    intro i S hi hn h
    obtain ⟨h1, h3, h4⟩ := h
    rw [List.length_cons] at hi
    have hz := zcross_ok hF (st := st) (wk := S.2.1) (mn := S.2.2) (more := 0) (back := false) (hn n (by simp)) (n := i) (by omega) (by decide) ⟨h3, h4.1, by omega⟩
    have e : i + (n :: t).length = i + 1 + t.length := by rw [List.length_cons]; omega
    rw [e]
    refine ih (i + 1) _ (by omega) (fun q hq => hn q (by simp [hq])) ⟨?_, hz.1, ?_⟩
    · simp only
      by_cases q : (zcross F p st n i 0 false S.2.1 S.2.2).1 = -1
      · rw [if_pos q]; omega
      · rw [if_neg q]; omega
    · simp only; omega
theorem tX8_tryWays {gn : Nat} (hF : Fr G l F g p I) (hz : zok (dwk I) (I 25 2).toInt) (hmn : (I 25 2).toInt ≤ 100000) (hgn : g = gn) : ∀ (m : Nat) (pre : List Nat) (S : zBS) (J : jS) (x1 x2 : Int32) (Qv : jS → jL → Prop), pre.length + m = gn → (∀ n ∈ pre, n < 3) → ag scC [] I J → Ic 38 J (p 0) (TV F p I pre).2.1 (TV F p I pre).2.2 → x1.toInt = pre.length → x2.toInt = (TV F p I pre).1 → (∀ i, i < pre.length → (J 49 i).toInt = pre.getD i 0) → KC gn J S →
    (∀ J', ag scC [] I J' → (∀ s, s < 24 → (J' 39 s).toInt = p 0 s) → (∀ t, t < pre.length → J' (42 + t) = J (42 + t)) → (∀ i, i < pre.length → J' 49 i = J 49 i) → KC gn J' (rf (lfV F p I) skF 3 m pre S) → Qv J' L) → cV G l mX8_tryWays (d + m + 7) [.ref 37, .int x1, .int x2] J L Qv := by
  have hg := hF.1
  have i38 : isIce 38 := by unfold isIce; decide
  intro m
  induction m with
  | zero =>
    intro pre S J x1 x2 Qv hlen hpre ha hJ h2 h4 h49 hK hQ
    have hFJ := hF.ag ha rfl
    have e11 : (J 1 1).toInt = gn := by rw [hFJ.2.1, hgn]
    have hT := TV_b (F := F) (p := p) (I := I) (pre := pre)
    have e1 : (x2 + J 1 1).toInt = (TV F p I pre).1 + gn := by rw [zadd (by rw [h4, e11]; omega) (by rw [h4, e11]; omega), h4, e11]
    have e2 : (x2 + J 1 1 - x1).toInt = (TV F p I pre).1 := by rw [zsub (by rw [e1, h2]; omega) (by rw [e1, h2]; omega), e1, h2]; omega
    refine wX8_tryWays_ok (Q := fun v I' L' => v = none ∧ Qv I' L') ?_
    unfold wX8_tryWays
    refine ife (fun q => ?_) (fun q => ⟨rfl, ?_⟩)
    · rw [zlt, e2, hK.1] at q
      rw [if_pos (by rw [zle, e11, h2]; omega)]
      unfold wX8_tryWays_36
      refine tX8_keepAs ⟨rfl, hQ _ (agc (agu ha (by decide) (by decide)) (by decide) (by decide)) (fun s hs => ?_) (fun t ht => ?_) (fun i hi => ?_) ?_⟩
      · rw [cpk_ne (by decide), u2n (by decide)]; exact hJ.1 s hs
      · rw [cpk_ne (by omega), u2_ne _ (by omega)]
      · rw [cpk_ne (by decide), u2n (by decide)]
      · unfold rf lfV
        rw [if_pos q]
        refine ⟨?_, fun _ i hi => ?_⟩
        · rw [cpk_ne (by decide), u2e]; exact h4
        · rw [cpk_eq (by omega), u2n (by decide)]; exact h49 i (by omega)
    · rw [zlt, e2, hK.1] at q
      refine hQ J ha hJ.1 (fun _ _ => rfl) (fun _ _ => rfl) ?_
      rw [lfV_prune (by omega)]
      exact hK
  | succ m ih =>
    intro pre S J x1 x2 Qv hlen hpre ha hJ h2 h4 h49 hK hQ
    have hFJ := hF.ag ha rfl
    have e11 : (J 1 1).toInt = gn := by rw [hFJ.2.1, hgn]
    have hT := TV_b (F := F) (p := p) (I := I) (pre := pre)
    have hok := zV_ok (st := p 0) hF (B := (I 25 2).toInt) ⟨hz.2.1, hmn⟩ pre 0 (0, dwk I, (I 25 2).toInt) (by omega) hpre ⟨by simp, hz.1, hz.2.1, by simp⟩
    have hok : zTok (I 25 2).toInt (0 + pre.length) (TV F p I pre) := hok
    have hsn := fun j => TV_snoc (F := F) (p := p) (I := I) (pre := pre) (j := j)
    have e1 : (x2 + J 1 1).toInt = (TV F p I pre).1 + gn := by rw [zadd (by rw [h4, e11]; omega) (by rw [h4, e11]; omega), h4, e11]
    have e2 : (x2 + J 1 1 - x1).toInt = (TV F p I pre).1 + (m + 1 : Nat) := by rw [zsub (by rw [e1, h2]; omega) (by rw [e1, h2]; omega), e1, h2]; omega
    rw [show d + (m + 1) + 7 = (d + m + 7) + 1 by omega]
    refine wX8_tryWays_ok (Q := fun v I' L' => v = none ∧ Qv I' L') ?_
    unfold wX8_tryWays
    refine ife (fun q => ?a) (fun q => ⟨rfl, ?b⟩)
    case b =>
      rw [zlt, e2, hK.1] at q
      refine hQ J ha hJ.1 (fun _ _ => rfl) (fun _ _ => rfl) ?_
      rw [lfV_prune (by omega)]
      exact hK
    rw [if_neg (by rw [zle, e11, h2]; omega), if_pos (by rw [zlt, zl_7, h2]; omega)]
    have hlt : pre.length < 7 := by omega
    refine tX8_save h2 hlt ?_
    have hn2 : x1.toNatClampNeg = pre.length := by rw [znat]; omega
    have hin2 : vp_in x1 7 := by rw [zin]; omega
    generalize hRd : rf (lfV F p I) skF 3 (m + 1) pre S = R at hQ
    have hRd : rlo (fun j S => rf (lfV F p I) skF 3 m (pre ++ [j]) S) 3 0 S = R := hRd
    have loop : ∀ (q j : Nat) (N : jS) (S' : zBS), j + q = 3 → ag scC [] I N → Ic 38 N (p 0) (TV F p I pre).2.1 (TV F p I pre).2.2 → (∀ s, s < 24 → (N (42 + pre.length) s).toInt = (TV F p I pre).2.1 s) → (∀ t, t < pre.length → N (42 + t) = J (42 + t)) → (∀ i, i < pre.length → N 49 i = J 49 i) → KC gn N S' → rlo (fun j S => rf (lfV F p I) skF 3 m (pre ++ [j]) S) q j S' = R → wX8_tryWays_58 G l (d + m + 7) (fun v I' L' => v = none ∧ Qv I' L') (q + 1) x1 x2 (J 38 2) (Int32.ofNat j) N L := by
      intro q
      induction q with
      | zero =>
        intro j N S' hj haN hN hsv h42 hN49 hKN hr
        have hr' : S' = R := hr
        subst hr'
        unfold wX8_tryWays_58
        rw [if_pos (by rw [zle, zl_3, zo (by omega)]; omega)]
        exact ⟨rfl, hQ N haN hN.1 h42 hN49 hKN⟩
      | succ q ihq =>
        intro j N S' hj haN hN hsv h42 hN49 hKN hr
        have hFN := hF.ag haN rfl
        unfold rlo at hr
        unfold wX8_tryWays_58
        rw [if_neg (by rw [zle, zl_3, zo (by omega)]; omega)]
        refine ⟨hin2, ?_⟩
        rw [hn2]
        have hau : ag [49] [] N (u2 N 49 pre.length (Int32.ofNat j)) := agu ag.rf (by simp) (by decide)
        have hb1 : ag scC [] I (u2 N 49 pre.length (Int32.ofNat j)) := haN.cl hau
        refine tX3_cross (back := false) i38 (hF.ag hb1 rfl) (hN.ag i38 hau (by decide) (by decide) (by decide)) ⟨hok.2.1, hok.2.2.1, by have := hok.2.2.2; omega⟩ (zst0 hF) (zo (k := j) (by omega)) (by omega) h2 (by omega) (more := 0) (by decide) (by decide) rfl (fun r2 N2 hr2 ha2 hN2 => ?_)
        have hb2 : ag scC [] I N2 := hb1.cl ha2
        have e37 : N2 37 = N 37 := by rw [ha2.c 37, hau.c 37]
        have e50 : N2 50 = N 50 := by rw [ha2.c 50, hau.c 50]
        have e42 : ∀ t, t < 7 → N2 (42 + t) = N (42 + t) := fun t ht => by
          rw [ha2.1 (42 + t) (by omega) (by simp; omega), hau.1 (42 + t) (by omega) (by simp; omega)]
        have e49 : ∀ i, N2 49 i = if i = pre.length then Int32.ofNat j else N 49 i := fun i => by
          rw [ha2.c 49, u2_ap]
          by_cases e : i = pre.length
          · rw [if_pos ⟨rfl, e⟩, if_pos e]
          · rw [if_neg (fun z => e z.2), if_neg e]
        have tail : ∀ t0 : Int32, t0.toInt = (if (zcross F p (p 0) j pre.length 0 false (TV F p I pre).2.1 (TV F p I pre).2.2).1 = -1 then 1 else 0) → wX8_tryWays_97 G l (d + m + 7) (fun z0 z1 z2 z3 I L => wX8_tryWays_58 G l (d + m + 7) (fun v I' L' => v = none ∧ Qv I' L') (q + 1) z0 z1 z2 z3 I L) (fun v I' L' => v = none ∧ Qv I' L') x1 x2 (J 38 2) (Int32.ofNat j) t0 N2 L := fun t0 ht0 => by
          have ht2 : 0 ≤ t0.toInt ∧ t0.toInt ≤ 1 := by
            rw [ht0]
            by_cases z : (zcross F p (p 0) j pre.length 0 false (TV F p I pre).2.1 (TV F p I pre).2.2).1 = -1
            · rw [if_pos z]; omega
            · rw [if_neg z]; omega
          unfold wX8_tryWays_97
          refine ih (pre ++ [j]) S' N2 _ _ _ (by rw [List.length_append]; simp; omega) (fun n hn => ?_) hb2 (by rw [hsn j]; exact hN2) ?_ ?_ (fun i hi => ?_) (hKN.cg e37 e50) (fun N3 ha3 h39 h42' h49' hK3 => ?_)
          · rcases List.mem_append.mp hn with z | z
            · exact hpre n z
            · have := List.mem_singleton.mp z; omega
          · rw [zadd (by rw [h2, z1]; omega) (by rw [h2, z1]; omega), h2, z1, List.length_append]; simp
          · rw [zadd (by rw [h4]; omega) (by rw [h4]; omega), h4, hsn j, ht0]
          · rw [List.length_append] at hi
            simp only [List.length_cons, List.length_nil] at hi
            rw [e49 i, getD_snoc' (by omega)]
            by_cases e : i = pre.length
            · rw [if_pos e, if_neg (by omega), zo (by omega)]
            · rw [if_neg e, if_pos (by omega), hN49 i (by omega)]; exact h49 i (by omega)
          · have hl1 : (pre ++ [j]).length = pre.length + 1 := by simp
            rw [hl1] at h42' h49'
            refine tX8_restore h2 hlt ?_
            rw [zsucc]
            refine ihq (j + 1) _ _ (by omega) (agu (agc ha3 (by decide) (by decide)) (by decide) (by decide)) ⟨fun s hs => ?_, fun s hs => ?_, ?_⟩ (fun s hs => ?_) (fun t ht => ?_) (fun i hi => ?_) (hK3.cg ?_ ?_) hr
            · rw [u2n (by decide), cpk_ne (by decide)]; exact h39 s hs
            · rw [u2n (by decide), cpk_eq hs, h42' pre.length (by omega), e42 pre.length hlt]; exact hsv s hs
            · rw [u2e]; exact hJ.2.2
            · rw [u2n (by omega), cpk_ne (by omega), h42' pre.length (by omega), e42 pre.length hlt]; exact hsv s hs
            · rw [u2_ne _ (by omega), cpk_ne (by omega), h42' t (by omega), e42 t (by omega)]; exact h42 t ht
            · rw [u2n (by decide), cpk_ne (by decide), h49' i (by omega), e49 i, if_neg (by omega)]; exact hN49 i hi
            · rw [u2_ne _ (by decide), cpk_ne (by decide)]
            · rw [u2_ne _ (by decide), cpk_ne (by decide)]
        refine ife (fun z => tail _ ?_) (fun z => tail _ ?_)
        · rw [zeq, hr2, zl_m1] at z
          rw [if_pos z]; rfl
        · rw [zeq, hr2, zl_m1] at z
          rw [if_neg z]; rfl
    have m42 := mem42 hlt
    refine ⟨_, loop 3 0 _ S (by omega) (agc ha m42 (by omega)) ⟨fun s hs => ?_, fun s hs => ?_, ?_⟩ (fun s hs => ?_) (fun t ht => ?_) (fun i hi => ?_) (hK.cg ?_ ?_) hRd⟩
    · rw [cpk_ne (by omega)]; exact hJ.1 s hs
    · rw [cpk_ne (by omega)]; exact hJ.2.1 s hs
    · rw [cpk_ne (by omega)]; exact hJ.2.2
    · rw [cpk_eq hs]; exact hJ.2.1 s hs
    · rw [cpk_ne (by omega)]
    · rw [cpk_ne (by omega)]
    · rw [cpk_ne (by omega)]
    · rw [cpk_ne (by omega)]
theorem zmod3 {x : Int32} {c : Nat} (h : x.toInt = c) (hc : c ≤ 100000) : (x - x / 3 * 3).toInt = ((c % 3 : Nat) : Int) ∧ (x / 3).toInt = ((c / 3 : Nat) : Int) := by
  have e1 : (x / 3).toInt = (c : Int) / 3 := by rw [zdiv (by omega) (by decide), h, zl_3]
  have e2 : (x / 3 * 3).toInt = (c : Int) / 3 * 3 := by rw [zmul (by rw [e1, zl_3]; omega) (by rw [e1, zl_3]; omega), e1, zl_3]
  refine ⟨?_, by rw [e1]; omega⟩
  rw [zsub (by rw [e2]; omega) (by rw [e2]; omega), e2, h]
  omega
theorem pow3_b {n : Nat} (h : n ≤ 7) : 1 ≤ 3 ^ n ∧ 3 ^ n ≤ 2187 := by
  have : n = 0 ∨ n = 1 ∨ n = 2 ∨ n = 3 ∨ n = 4 ∨ n = 5 ∨ n = 6 ∨ n = 7 := by omega
  rcases this with rfl | rfl | rfl | rfl | rfl | rfl | rfl | rfl <;> decide
end SV

/-! a crossing, in numbers; the class's crosser -/
theorem zdiv {a b : Int32} (ha : 0 ≤ a.toInt) (hb : 0 < b.toInt) : (a / b).toInt = a.toInt / b.toInt := by
  have h1 := zrange a
  have h2 : 0 ≤ a.toInt / b.toInt := Int.ediv_nonneg ha (by omega)
  have h3 : a.toInt / b.toInt ≤ a.toInt := Int.ediv_le_self _ ha
  rw [Int32.toInt_div, Int.tdiv_eq_ediv_of_nonneg ha, zbmod (by omega) (by omega)]
theorem zoi {a : Int32} {z : Int} (h : a.toInt = z) : Int32.ofInt z = a := by rw [← h, Int32.ofInt_toInt]
theorem zoi' {z : Int} (h1 : -2147483648 ≤ z) (h2 : z ≤ 2147483647) : (Int32.ofInt z).toInt = z := by
  rw [Int32.toInt_ofInt, zbmod h1 h2]
theorem zmod8 {x : Int32} {s : Nat} (h : x.toInt = s) (hs : s < 1000) : x - x / 8 * 8 = Int32.ofNat (s % 8) := by
  have e1 : (x / 8).toInt = (s : Int) / 8 := by rw [zdiv (by omega) (by decide), h, zl_8]
  have e2 : (x / 8 * 8).toInt = (s : Int) / 8 * 8 := by rw [zmul (by rw [e1, zl_8]; omega) (by rw [e1, zl_8]; omega), e1, zl_8]
  refine zof ?_
  rw [zsub (by rw [e2]; omega) (by rw [e2]; omega), e2, h]
  omega
abbrev lF : Type := Int32 → Int32 → Int32 → Int32 → Int32 → Int32 → Int32
/-- the law: what the class's codes and the reference's text give -/
def LW (G : jG) (l : Launch) (F : Option lF) (len : Int32) (code : Nat → Int32) (tm : Int32) (text : Nat → Int32) : Prop :=
  match F with
  | none => len.toInt ≤ 0 ∧ tm.toInt < 0
  | some f => 0 < len.toInt ∧ 0 ≤ tm.toInt ∧
    (∀ (d : Nat) (I : jS) (L : jL) (Q : Int32 → jS → jL → Prop), I 17 9 = len → I 20 = code → (∀ I', ag [21] [] I I' → Q (f (I 22 0) (I 22 1) (I 22 2) (I 22 3) (I 22 4) (I 22 5)) I' L) → cI G l mX6_work (d + 2) [.ref 17] I L Q) ∧
    (∀ (d : Nat) (I : jS) (L : jL) (Q : Int32 → jS → jL → Prop), I 71 12 = tm → I 78 = text → (∀ I', ag [] [13, 14, 15, 16, 17] I I' → Q (f (I 79 0) (I 79 1) (I 79 2) (I 79 3) (I 79 4) (I 79 5)) I' L) → cI G l mX12_workOut (d + 100) [.ref 71, .int 0, .int tm] I L Q)
def pok (w : Nat) (v : Int) : Prop := (jsl2.getD w 0).toInt ≤ v ∧ v ≤ (jsl3.getD w 0).toInt
/-- what a crossing reads: the goers, the numbers, the law -/
def Fr (G : jG) (l : Launch) (F : Option lF) (g : Int) (p : Nat → Nat → Int) (I : jS) : Prop :=
  (0 ≤ g ∧ g ≤ 7) ∧ (I 1 1).toInt = g ∧ (I 71 6).toInt = g ∧ (∀ w n, hasN g n w → (I (3 + w) n).toInt = p w n ∧ (I 72 (placeN n w)).toInt = p w n ∧ pok w (p w n)) ∧ LW G l F (I 17 9) (I 20) (I 71 12) (I 78)
def noFr (S T : List Nat) : Bool := [1, 3, 4, 5, 6, 7, 8, 9, 10, 11, 72, 17, 20, 78].all (fun r => !S.contains r) && (!T.contains 6 && !T.contains 12)
theorem Fr.ag {G : jG} {l : Launch} {F : Option lF} {g : Int} {p : Nat → Nat → Int} {S T : List Nat} {I I' : jS} (h : Fr G l F g p I) (ha : ag S T I I') (hn : noFr S T = true) : Fr G l F g p I' := by
  simp only [noFr, Bool.and_eq_true] at hn
  have e : ∀ r, r ∈ [1, 3, 4, 5, 6, 7, 8, 9, 10, 11, 72, 17, 20, 78] → I' r = I r := fun r hr => ha.1 r (fun q => by subst q; revert hr; decide) (no_S hn.1 hr)
  obtain ⟨h1, h2, h3, h4, h5⟩ := h
  have e6 := ha.2 6 (by simpa using hn.2.1)
  have e12 := ha.2 12 (by simpa using hn.2.2)
  refine ⟨h1, by rw [e 1 (by decide)]; exact h2, by rw [e6]; exact h3, fun w n hw => ?_, by rw [e 17 (by decide), e 20 (by decide), e12, e 78 (by decide)]; exact h5⟩
  have hw9 : w < 9 := by unfold hasN at hw; omega
  rw [e 72 (by decide), e (3 + w) (by
    have : w = 0 ∨ w = 1 ∨ w = 2 ∨ w = 3 ∨ w = 4 ∨ w = 5 ∨ w = 6 ∨ w = 7 ∨ w = 8 := by omega
    rcases this with rfl | rfl | rfl | rfl | rfl | rfl | rfl | rfl | rfl <;> decide)]
  exact h4 w n hw
abbrev zC : Type := Bool × Int × Int × Int
def zW (F : Option lF) (c : zC) (b : Int) (s : Nat) (mn : Int) : Int := max 0 (min 99 (match F with
  | none => if c.1 then c.2.2.1 / 2 else c.2.2.1
  | some f => (f (Int32.ofInt c.2.1) (Int32.ofInt c.2.2.1) (Int32.ofInt c.2.2.2) (Int32.ofInt b) (Int32.ofNat (s % 8)) (Int32.ofInt mn)).toInt))
def zB (st wk : Nat → Int) (mn sun : Int) (s : Nat) : Int := max 0 (st s - wk s - max 0 (mn - sun))
def zup (f : Nat → Int) (s : Nat) (v : Int) : Nat → Int := fun i => if i = s then v else f i
/-- one step -/
def zS (F : Option lF) (c : zC) (st : Nat → Int) (mn sun : Int) (s : Nat) (wk : Nat → Int) : Nat → Int :=
  zup wk s (if c.2.1 ≤ zB st wk mn sun s then min 99 (wk s + zW F c (zB st wk mn sun s) s mn) else 99)
/-- m squares more, from the k-th on: where it falls (-1: nowhere), the weakness left -/
def zgo (F : Option lF) (c : zC) (st : Nat → Int) (mn sun : Int) (sq : Nat → Nat) : Nat → Nat → (Nat → Int) → Int × (Nat → Int)
  | 0, _, wk => (-1, wk)
  | m + 1, k, wk => if c.2.1 ≤ zB st wk mn sun (sq k) then zgo F c st mn sun sq m (k + 1) (zS F c st mn sun (sq k) wk) else ((sq k : Int), zup wk (sq k) 99)
def zsq (way : Nat) (back : Bool) (k : Nat) : Nat := 8 * way + (if back then 7 - k else k)
def zpass (p : Nat → Nat → Int) (n : Int) (wk : Nat → Int) : Nat → Int := fun s => max 0 (wk s - n * p 1 s)
def zready (p : Nat → Nat → Int) (g : Nat) (more : Int) : zC :=
  (decide (p 5 g ≠ 0), if p 5 g ≠ 0 then (p 4 g + more + 1) / 2 else p 4 g + more, p 6 g + more / 4, p 7 g)
def zt (c : zC) : Int := if c.1 then 2 * c.2.2.2 else c.2.2.2
/-- a crossing: where it falls, the weakness and the minute behind it -/
def zcross (F : Option lF) (p : Nat → Nat → Int) (st : Nat → Int) (way g : Nat) (more : Int) (back : Bool) (wk : Nat → Int) (mn : Int) : Int × (Nat → Int) × Int :=
  ((zgo F (zready p g more) st mn (p 8 0) (zsq way back) 8 0 wk).1, zpass p (zt (zready p g more)) (zgo F (zready p g more) st mn (p 8 0) (zsq way back) 8 0 wk).2, mn + zt (zready p g more))
def zok (wk : Nat → Int) (mn : Int) : Prop := (∀ s, s < 24 → 0 ≤ wk s ∧ wk s ≤ 99) ∧ 0 ≤ mn ∧ mn ≤ 900000
def zstok (st : Nat → Int) : Prop := ∀ s, s < 24 → -99 ≤ st s ∧ st s ≤ 99
theorem zW_b {F : Option lF} {c : zC} {b : Int} {s : Nat} {mn : Int} : 0 ≤ zW F c b s mn ∧ zW F c b s mn ≤ 99 := by unfold zW; omega
theorem zS_ok {F : Option lF} {c : zC} {st wk : Nat → Int} {mn sun : Int} {s : Nat} (h : ∀ s, s < 24 → 0 ≤ wk s ∧ wk s ≤ 99) (hs : s < 24) : ∀ i, i < 24 → 0 ≤ zS F c st mn sun s wk i ∧ zS F c st mn sun s wk i ≤ 99 := fun i hi => by
  unfold zS zup
  have h1 := h i hi
  have h2 := h s hs
  have h3 := zW_b (F := F) (c := c) (b := zB st wk mn sun s) (s := s) (mn := mn)
  by_cases hc : i = s
  · rw [if_pos hc]
    by_cases hd : c.2.1 ≤ zB st wk mn sun s
    · rw [if_pos hd]; omega
    · rw [if_neg hd]; omega
  · rw [if_neg hc]; exact h1
theorem zsq_lt {way k : Nat} {back : Bool} (hw : way < 3) (hk : k < 8) : zsq way back k < 24 := by
  unfold zsq
  cases back
  · simp; omega
  · simp; omega
theorem zgo_ok {F : Option lF} {c : zC} {st : Nat → Int} {mn sun : Int} {sq : Nat → Nat} (hsq : ∀ k, k < 8 → sq k < 24) : ∀ m k wk, k + m ≤ 8 → (∀ s, s < 24 → 0 ≤ wk s ∧ wk s ≤ 99) → ∀ s, s < 24 → 0 ≤ (zgo F c st mn sun sq m k wk).2 s ∧ (zgo F c st mn sun sq m k wk).2 s ≤ 99 := by
  intro m
  induction m with
  | zero => intro k wk _ h s hs; unfold zgo; exact h s hs
  | succ m ih =>
    intro k wk hk h s hs
    unfold zgo
    by_cases hc : c.2.1 ≤ zB st wk mn sun (sq k)
    · rw [if_pos hc]
      exact ih (k + 1) _ (by omega) (zS_ok h (hsq k (by omega))) s hs
    · rw [if_neg hc]
      simp only [zup]
      by_cases he : s = sq k
      · rw [if_pos he]; omega
      · rw [if_neg he]; exact h s hs
theorem zpass_ok {p : Nat → Nat → Int} {n : Int} {wk : Nat → Int} (hn : 0 ≤ n) (hp : ∀ s, s < 24 → 0 ≤ p 1 s) (h : ∀ s, s < 24 → 0 ≤ wk s ∧ wk s ≤ 99) : ∀ s, s < 24 → 0 ≤ zpass p n wk s ∧ zpass p n wk s ≤ 99 := fun s hs => by
  unfold zpass
  have h1 := h s hs
  have h2 : 0 ≤ n * p 1 s := Int.mul_nonneg hn (hp s hs)
  omega
theorem pok_0 {v : Int} (h : pok 0 v) : 0 ≤ v ∧ v ≤ 99 := h
theorem pok_1 {v : Int} (h : pok 1 v) : 0 ≤ v ∧ v ≤ 9 := h
theorem pok_2 {v : Int} (h : pok 2 v) : 0 ≤ v ∧ v ≤ 12 := h
theorem pok_3 {v : Int} (h : pok 3 v) : 0 ≤ v ∧ v ≤ 99 := h
theorem pok_4 {v : Int} (h : pok 4 v) : 1 ≤ v ∧ v ≤ 60 := h
theorem pok_5 {v : Int} (h : pok 5 v) : 0 ≤ v ∧ v ≤ 1 := h
theorem pok_6 {v : Int} (h : pok 6 v) : 0 ≤ v ∧ v ≤ 60 := h
theorem pok_7 {v : Int} (h : pok 7 v) : 1 ≤ v ∧ v ≤ 9 := h
theorem pok_8 {v : Int} (h : pok 8 v) : 0 ≤ v ∧ v ≤ 999 := h
section CR
variable {G : jG} {l : Launch} {d : Nat} {F : Option lF} {g : Int} {p : Nat → Nat → Int} {I : jS} {L : jL} {ic : Nat} {c : zC} {st wk : Nat → Int} {mn : Int} {Q : Int32 → jS → jL → Prop} {Qv : jS → jL → Prop}
/-- the class's ice -/
def Ic (ic : Nat) (I : jS) (st wk : Nat → Int) (mn : Int) : Prop := (∀ s, s < 24 → (I (ic + 1) s).toInt = st s) ∧ (∀ s, s < 24 → (I (ic + 2) s).toInt = wk s) ∧ (I ic 2).toInt = mn
def Cr (I : jS) (c : zC) : Prop := (I 23 2).toInt = c.2.1 ∧ (I 23 3).toInt = c.2.2.1 ∧ (I 23 4).toInt = c.2.2.2 ∧ I 23 5 = if c.1 then 1 else 0
def cok (c : zC) : Prop := (0 ≤ c.2.1 ∧ c.2.1 ≤ 300) ∧ (0 ≤ c.2.2.1 ∧ c.2.2.1 ≤ 200) ∧ (1 ≤ c.2.2.2 ∧ c.2.2.2 ≤ 9)
theorem Fr.sq (h : Fr G l F g p I) {s w : Nat} (hs : s < 24) (hw : w < 4) : (I (3 + w) s).toInt = p w s ∧ (I 72 (24 * w + s)).toInt = p w s ∧ pok w (p w s) := by
  have := h.2.2.2.1 w s (Or.inl ⟨hw, hs⟩)
  unfold placeN at this
  rw [if_pos hw] at this
  exact this
theorem Fr.go (h : Fr G l F g p I) {n w : Nat} (hn : (n : Int) < g) (hw : 4 ≤ w ∧ w < 8) : (I (3 + w) n).toInt = p w n ∧ (I 72 (96 + 7 * (w - 4) + n)).toInt = p w n ∧ pok w (p w n) := by
  have := h.2.2.2.1 w n (Or.inr (Or.inl ⟨hw.1, hw.2, hn⟩))
  unfold placeN at this
  rw [if_neg (by omega), if_pos hw.2] at this
  exact this
theorem Fr.sun (h : Fr G l F g p I) : (I 11 0).toInt = p 8 0 ∧ (I 72 124).toInt = p 8 0 ∧ 0 ≤ p 8 0 ∧ p 8 0 ≤ 999 := by
  have := h.2.2.2.1 8 0 (Or.inr (Or.inr ⟨rfl, rfl⟩))
  exact ⟨this.1, this.2.1, this.2.2⟩
theorem zready_ok (h : Fr G l F g p I) {n : Nat} (hn : (n : Int) < g) {more : Int} (hm : 0 ≤ more ∧ more ≤ 200) : cok (zready p n more) := by
  have a4 := pok_4 (h.go hn (w := 4) (by decide)).2.2
  have a6 := pok_6 (h.go hn (w := 6) (by decide)).2.2
  have a7 := pok_7 (h.go hn (w := 7) (by decide)).2.2
  unfold zready cok
  refine ⟨?_, by simp only; omega, a7⟩
  simp only
  by_cases h5 : p 5 n ≠ 0
  · rw [if_pos h5]; omega
  · rw [if_neg h5]; omega
/-- a number of the pond, as the class gets it -/
theorem tX7_get' {n w : Int32} {a b : Nat} {v : Int} (hn : n.toInt = a) (hw : w.toInt = b) (ha : a < 24) (hb : b ≤ 8) (hv : (I (3 + b) a).toInt = v) (h : ∀ r : Int32, r.toInt = v → Q r I L) : cI G l mX7_get (d + 1) [.ref 1, .int n, .int w] I L Q := by
  refine tX7_get ?_
  rw [if_pos (by omega), hn, hw]
  exact h _ hv
theorem zmax0 {x : Int32} : (if (0 : Int32) < x then x else 0).toInt = max 0 x.toInt := by
  by_cases h : (0 : Int32) < x
  · rw [if_pos h]
    rw [zlt, z0] at h
    omega
  · rw [if_neg h]
    rw [zlt, z0] at h
    rw [z0]
    omega
/-- what a square bears, if so many minutes pass first -/
theorem tX3_bearing {x y : Int32} {s : Nat} {w : Int} (hic : isIce ic) (hF : Fr G l F g p I) (hI : Ic ic I st wk mn) (ho : zok wk mn) (hst : zstok st) (hx : x.toInt = s) (hs : s < 24) (hy : y.toInt = w) (hw : 0 ≤ w ∧ w ≤ 60)
    (h : ∀ r : Int32, r.toInt = max 0 (st s - max 0 (wk s - w * p 1 s) - max 0 (mn + w - p 8 0)) → Q r I L) : cI G l mX3_bearing (d + 2) [.ref 23, .ref ic, .int x, .int y] I L Q := by
  refine wX3_bearing_ok hic ?_
  unfold wX3_bearing
  refine tX11_isSquare (ifz (fun c => absurd (by omega) c) (fun _ => ⟨by rw [zin]; omega, ?_⟩))
  have hxs : x.toNatClampNeg = s := by rw [znat]; omega
  obtain ⟨a1, -, b1⟩ := hF.sq hs (w := 1) (by decide)
  have b1 := pok_1 b1
  obtain ⟨a8, -, b8⟩ := hF.sun
  refine tX7_get' hx (b := 1) (v := p 1 s) (by decide) hs (by decide) a1 (fun r3 h3 => tX7_get' (a := 0) (b := 8) (v := p 8 0) (by decide) (by decide) (by decide) (by decide) a8 (fun r4 h4 => ri (h _ ?_)))
  rw [hxs]
  have s1 := hst s hs
  have k1 := ho.1 s hs
  have hm : 0 ≤ w * p 1 s ∧ w * p 1 s ≤ 60 * 9 := ⟨Int.mul_nonneg hw.1 b1.1, Int.mul_le_mul hw.2 b1.2 b1.1 (by decide)⟩
  have hm0 := ho.2
  have m1 : (y * r3).toInt = w * p 1 s := by rw [zmul (by rw [hy, h3]; omega) (by rw [hy, h3]; omega), hy, h3]
  have m2 : (I (ic + 2) s - y * r3).toInt = wk s - w * p 1 s := by rw [zsub (by rw [m1, hI.2.1 s hs]; omega) (by rw [m1, hI.2.1 s hs]; omega), m1, hI.2.1 s hs]
  have m3 : (I ic 2 + y).toInt = mn + w := by rw [zadd (by rw [hI.2.2, hy]; omega) (by rw [hI.2.2, hy]; omega), hI.2.2, hy]
  have m4 : (I ic 2 + y - r4).toInt = mn + w - p 8 0 := by rw [zsub (by rw [m3, h4]; omega) (by rw [m3, h4]; omega), m3, h4]
  have m5 : (I (ic + 1) s - (if (0 : Int32) < I (ic + 2) s - y * r3 then I (ic + 2) s - y * r3 else 0)).toInt = st s - max 0 (wk s - w * p 1 s) := by
    rw [zsub (by rw [zmax0, hI.1 s hs, m2]; omega) (by rw [zmax0, hI.1 s hs, m2]; omega), zmax0, hI.1 s hs, m2]
  rw [zmax0, zsub (by rw [m5, zmax0, m4]; omega) (by rw [m5, zmax0, m4]; omega), m5, zmax0, m4]
/-- who steps, from now on -/
theorem tX3_ready {x y : Int32} {n : Nat} {more : Int} (hF : Fr G l F g p I) (hx : x.toInt = n) (hn : (n : Int) < g) (hy : y.toInt = more) (hm : 0 ≤ more ∧ more ≤ 200)
    (h : ∀ I', ag [23] [] I I' → Cr I' (zready p n more) → Qv I' L) : cV G l mX3_ready (d + 2) [.ref 23, .int x, .int y] I L Qv := by
  have hg := hF.1
  obtain ⟨a4, -, b4⟩ := hF.go hn (w := 4) (by decide)
  obtain ⟨a5, -, b5⟩ := hF.go hn (w := 5) (by decide)
  obtain ⟨a6, -, b6⟩ := hF.go hn (w := 6) (by decide)
  obtain ⟨a7, -, b7⟩ := hF.go hn (w := 7) (by decide)
  have b4 := pok_4 b4
  have b5 := pok_5 b5
  have b6 := pok_6 b6
  have b7 := pok_7 b7
  have e6 : ∀ t1 t2 : Int32, u2 (u2 I 23 5 t1) 23 2 t2 9 = I 9 := fun t1 t2 => by funext j; rw [u2n (by decide), u2n (by decide)]
  have e7 : ∀ t1 t2 t3 : Int32, u2 (u2 (u2 I 23 5 t1) 23 2 t2) 23 3 t3 10 = I 10 := fun t1 t2 t3 => by funext j; rw [u2n (by decide), u2n (by decide), u2n (by decide)]
  have e4 : ∀ t1 : Int32, u2 I 23 5 t1 7 = I 7 := fun t1 => by funext j; rw [u2n (by decide)]
  have d4 : (y / 4).toInt = more / 4 := by rw [zdiv (by omega) (by decide), hy, zl_4]
  refine wX3_ready_ok (Q := fun v I' L' => v = none ∧ Qv I' L') ?_
  unfold wX3_ready
  have tail : ∀ t1 t2 : Int32, t1 = (if p 5 n ≠ 0 then 1 else 0) → t2.toInt = (if p 5 n ≠ 0 then (p 4 n + more + 1) / 2 else p 4 n + more) → wX3_ready_50 G l (d + 1) (fun v I' L' => v = none ∧ Qv I' L') x y t2 (u2 I 23 5 t1) L := fun t1 t2 h1 h2 => by
    unfold wX3_ready_50
    refine tX7_get' hx (b := 6) (v := p 6 n) (by decide) (by omega) (by decide) (by rw [e6]; exact a6) (fun r1 q1 => tX7_get' hx (b := 7) (v := p 7 n) (by decide) (by omega) (by decide) (by rw [e7]; exact a7) (fun r2 q2 => ⟨rfl, h _ ?_ ?_⟩))
    · exact agu (agu (agu (agu ag.rf (by decide) (by decide)) (by decide) (by decide)) (by decide) (by decide)) (by decide) (by decide)
    · unfold Cr zready
      simp only
      have f2 : (u2 (u2 (u2 (u2 I 23 5 t1) 23 2 t2) 23 3 (r1 + y / 4)) 23 4 r2) 23 2 = t2 := by simp [u2_ap]
      have f3 : (u2 (u2 (u2 (u2 I 23 5 t1) 23 2 t2) 23 3 (r1 + y / 4)) 23 4 r2) 23 3 = r1 + y / 4 := by simp [u2_ap]
      have f4 : (u2 (u2 (u2 (u2 I 23 5 t1) 23 2 t2) 23 3 (r1 + y / 4)) 23 4 r2) 23 4 = r2 := by simp [u2_ap]
      have f5 : (u2 (u2 (u2 (u2 I 23 5 t1) 23 2 t2) 23 3 (r1 + y / 4)) 23 4 r2) 23 5 = t1 := by simp [u2_ap]
      rw [f2, f3, f4, f5, zadd (by rw [q1, d4]; omega) (by rw [q1, d4]; omega), q1, d4]
      refine ⟨h2, rfl, q2, ?_⟩
      rw [h1]
      by_cases h5 : p 5 n ≠ 0
      · rw [if_pos h5, if_pos (by simpa using h5)]
      · rw [if_neg h5, if_neg (by simpa using h5)]
  have s1 : ∀ r : Int32, r.toInt = p 4 n → (r + y).toInt = p 4 n + more := fun r hr => by rw [zadd (by rw [hr, hy]; omega) (by rw [hr, hy]; omega), hr, hy]
  have s2 : ∀ r : Int32, r.toInt = p 4 n → ((r + y + 1) / 2).toInt = (p 4 n + more + 1) / 2 := fun r hr => by
    have q : (r + y + 1).toInt = p 4 n + more + 1 := by rw [zadd (by rw [s1 r hr, z1]; omega) (by rw [s1 r hr, z1]; omega), s1 r hr, z1]
    rw [zdiv (by rw [q]; omega) (by decide), q, zl_2]
  refine tX7_get' hx (b := 5) (v := p 5 n) (by decide) (by omega) (by decide) a5 (fun r1 q1 => ife (fun c => ?_) (fun c => ?_))
  · rw [zeq, z0, q1] at c
    unfold wX3_ready_18
    refine ⟨Or.inl rfl, tX7_get' hx (b := 4) (v := p 4 n) (by decide) (by omega) (by decide) (by rw [e4]; exact a4) (fun r2 q2 => ?_)⟩
    rw [u2e, if_pos rfl]
    exact tail 0 _ (by rw [if_neg (by omega)]) (by rw [if_neg (by omega)]; exact s1 r2 q2)
  · rw [zeq, z0, q1] at c
    unfold wX3_ready_18
    refine ⟨Or.inr rfl, tX7_get' hx (b := 4) (v := p 4 n) (by decide) (by omega) (by decide) (by rw [e4]; exact a4) (fun r2 q2 => ?_)⟩
    rw [u2e, if_neg (by decide)]
    exact tail 1 _ (by rw [if_pos c]) (by rw [if_pos c]; exact s2 r2 q2)
end CR

/-! act -/
def gV (n : Int32) (k : Nat) (x : Int32) : Int32 := if k = 1 ∨ k = 4 ∨ k = 7 then x + n + 3 else if k = 6 then (x + n) * 2 else x + n
def gT (k : Nat) : List Int32 := if k = 1 ∨ k = 4 ∨ k = 7 then [20, 1] else if k = 6 then [70, 1] else [1]
def wV (n : Int32) (o k : Nat) (x : Int32) : Int32 := if k = 3 ∨ k = 5 then (x ^^^ n) * 3 else if k = 4 ∨ k = 7 then (x ^^^ n) - gV n o 2 else x ^^^ n
def wT (o k : Nat) : List Int32 := if k = 3 ∨ k = 5 then [40, 11] else if k = 4 ∨ k = 7 then [50, 11] ++ gT o else [11]
def bV (n : Int32) (o k : Nat) (x : Int32) : Int32 := if k = 3 ∨ k = 5 then -(gV n o (x + 1) * 2) else if k = 2 then -(gV n o x * 2) else if k = 7 then gV n o x * 2 + wV n o o 2 else gV n o x * 2
def bT (o k : Nat) : List Int32 := if k = 3 ∨ k = 5 then [41, 30, 10] ++ gT o else if k = 2 then [30, 10] ++ gT o else if k = 7 then [80, 10] ++ gT o ++ wT o o else [10] ++ gT o
def tV (n : Int32) (o k : Nat) (x : Int32) : Int32 := if k = 5 then (bV n o o x - wV n o o 1) ^^^ 5 else if k = 7 then (bV n o o x - wV n o o 1) - 1 else bV n o o x - wV n o o 1
def tT (o k : Nat) : List Int32 := if k = 5 then [60, 2] ++ bT o o ++ wT o o else if k = 7 then [81, 2] ++ bT o o ++ wT o o else [2] ++ bT o o ++ wT o o
theorem gT_l {k : Nat} : (gT k).length ≤ 2 := by
  unfold gT
  by_cases h : k = 1 ∨ k = 4 ∨ k = 7
  · rw [if_pos h]; decide
  · rw [if_neg h]
    by_cases h2 : k = 6
    · rw [if_pos h2]; decide
    · rw [if_neg h2]; decide
theorem wT_l {o k : Nat} : (wT o k).length ≤ 4 := by
  have := gT_l (k := o)
  unfold wT
  by_cases h : k = 3 ∨ k = 5
  · rw [if_pos h]; decide
  · rw [if_neg h]
    by_cases h2 : k = 4 ∨ k = 7
    · rw [if_pos h2, List.length_append]; simp; omega
    · rw [if_neg h2]; decide
theorem bT_l {o k : Nat} : (bT o k).length ≤ 10 := by
  have h1 := gT_l (k := o)
  have h2 := wT_l (o := o) (k := o)
  unfold bT
  by_cases h : k = 3 ∨ k = 5
  · rw [if_pos h, List.length_append]; simp; omega
  · rw [if_neg h]
    by_cases h2 : k = 2
    · rw [if_pos h2, List.length_append]; simp; omega
    · rw [if_neg h2]
      by_cases h3 : k = 7
      · rw [if_pos h3, List.length_append, List.length_append]; simp; omega
      · rw [if_neg h3, List.length_append]; simp; omega
/-- what was led of acts -/
def Tr (c : Int32) (arr : Nat → Int32) (t : List Int32) : Prop := c.toInt = t.length ∧ ∀ i, i < t.length → i < 24 → arr i = t.getD i 0
theorem gdz {l : List Int32} {x : Int32} {i : Nat} (h : i < l.length + 1) : (l ++ [x]).getD i 0 = if i < l.length then l.getD i 0 else x := by
  by_cases q : i < l.length
  · rw [if_pos q]
    simp [List.getElem?_append_left q]
  · rw [if_neg q]
    have : i = l.length := by omega
    subst this
    simp
theorem Tr_snoc {c : Int32} {arr arr' : Nat → Int32} {t : List Int32} {x : Int32} (h : Tr c arr t) (ht : t.length ≤ 1000) (ha : ∀ i, arr' i = if t.length < 24 ∧ i = t.length then x else arr i) : Tr (c + 1) arr' (t ++ [x]) := by
  refine ⟨?_, fun i hi h24 => ?_⟩
  · rw [zadd (by rw [h.1, z1]; omega) (by rw [h.1, z1]; omega), h.1, z1, List.length_append]; simp
  · rw [List.length_append] at hi
    simp only [List.length_cons, List.length_nil] at hi
    rw [gdz (by omega), ha i]
    by_cases q : i < t.length
    · rw [if_pos q, if_neg (by omega)]; exact h.2 i q h24
    · rw [if_neg q, if_pos (by omega)]
/-- the kind that does an act by itself -/
def hmF (a : Nat) : Nat → Nat → Nat
  | 0, k => k
  | m + 1, k => if jsl4.getD (4 * k + a) 0 = 0 then hmF a m (jsl5.getD k 0).toInt.toNat else k
theorem hm_lt {k a : Nat} (hk : k < 8) (ha : a < 4) : hmF a 8 k < 8 := by
  have h1 : k = 0 ∨ k = 1 ∨ k = 2 ∨ k = 3 ∨ k = 4 ∨ k = 5 ∨ k = 6 ∨ k = 7 := by omega
  have h2 : a = 0 ∨ a = 1 ∨ a = 2 ∨ a = 3 := by omega
  rcases h1 with rfl | rfl | rfl | rfl | rfl | rfl | rfl | rfl <;> rcases h2 with rfl | rfl | rfl | rfl <;> decide
theorem up_ok {k a : Nat} (hk : k < 8) (ha : a < 4) (h : jsl4.getD (4 * k + a) 0 = 0) : 0 ≤ (jsl5.getD k 0).toInt ∧ (jsl5.getD k 0).toInt < 8 := by
  have h1 : k = 0 ∨ k = 1 ∨ k = 2 ∨ k = 3 ∨ k = 4 ∨ k = 5 ∨ k = 6 ∨ k = 7 := by omega
  have h2 : a = 0 ∨ a = 1 ∨ a = 2 ∨ a = 3 := by omega
  revert h
  rcases h1 with rfl | rfl | rfl | rfl | rfl | rfl | rfl | rfl <;> rcases h2 with rfl | rfl | rfl | rfl <;> decide
/-- behind the note -/
def runT (G : jG) (l : Launch) (d : Nat) (Q : Option Value → jS → jL → Prop) (x1 x4 x5 r2 r3 : Int32) (I4 : jS) (L4 : jL) : Prop := if r2 = (1 : Int32) then (Q (some (.int (x4 + (I4 68 4)))) I4 L4) else (if r2 = (2 : Int32) then (cI G l mX0_run d [.ref 68, .int x1, .int x1, .int (1 : Int32), .int x4, .int (x5 + (1 : Int32))] I4 L4 (fun r5 I5 L5 => (cI G l mX0_run d [.ref 68, .int x1, .int x1, .int (2 : Int32), .int (1 : Int32), .int (x5 + (1 : Int32))] I5 L5 (fun r6 I6 L6 => (Q (some (.int (r5 - r6))) I6 L6))))) else (if r2 = (10 : Int32) then (cI G l mX0_run d [.ref 68, .int x1, .int x1, .int (0 : Int32), .int x4, .int (x5 + (1 : Int32))] I4 L4 (fun r7 I7 L7 => (Q (some (.int (r7 * (2 : Int32)))) I7 L7))) else (if r2 = (11 : Int32) then (Q (some (.int (x4 ^^^ (I4 68 4)))) I4 L4) else (if r2 = (20 : Int32) then (cI G l mX0_run d [.ref 68, .int x1, .int r3, .int (0 : Int32), .int x4, .int (x5 + (1 : Int32))] I4 L4 (fun r8 I8 L8 => (Q (some (.int (r8 + (3 : Int32)))) I8 L8))) else (if r2 = (30 : Int32) then (cI G l mX0_run d [.ref 68, .int x1, .int r3, .int (1 : Int32), .int x4, .int (x5 + (1 : Int32))] I4 L4 (fun r9 I9 L9 => (Q (some (.int (-r9))) I9 L9))) else (if r2 = (40 : Int32) then (cI G l mX0_run d [.ref 68, .int x1, .int r3, .int (2 : Int32), .int x4, .int (x5 + (1 : Int32))] I4 L4 (fun r10 I10 L10 => (Q (some (.int (r10 * (3 : Int32)))) I10 L10))) else (if r2 = (41 : Int32) then (cI G l mX0_run d [.ref 68, .int x1, .int r3, .int (1 : Int32), .int (x4 + (1 : Int32)), .int (x5 + (1 : Int32))] I4 L4 (fun r11 I11 L11 => (Q (some (.int r11)) I11 L11))) else (if r2 = (50 : Int32) then (cI G l mX0_run d [.ref 68, .int x1, .int r3, .int (2 : Int32), .int x4, .int (x5 + (1 : Int32))] I4 L4 (fun r12 I12 L12 => (cI G l mX0_run d [.ref 68, .int x1, .int x1, .int (0 : Int32), .int (2 : Int32), .int (x5 + (1 : Int32))] I12 L12 (fun r13 I13 L13 => (Q (some (.int (r12 - r13))) I13 L13))))) else (if r2 = (60 : Int32) then (cI G l mX0_run d [.ref 68, .int x1, .int r3, .int (3 : Int32), .int x4, .int (x5 + (1 : Int32))] I4 L4 (fun r14 I14 L14 => (Q (some (.int (r14 ^^^ (5 : Int32)))) I14 L14))) else (if r2 = (70 : Int32) then (cI G l mX0_run d [.ref 68, .int x1, .int r3, .int (0 : Int32), .int x4, .int (x5 + (1 : Int32))] I4 L4 (fun r15 I15 L15 => (Q (some (.int (r15 * (2 : Int32)))) I15 L15))) else (if r2 = (80 : Int32) then (cI G l mX0_run d [.ref 68, .int x1, .int r3, .int (1 : Int32), .int x4, .int (x5 + (1 : Int32))] I4 L4 (fun r16 I16 L16 => (cI G l mX0_run d [.ref 68, .int x1, .int x1, .int (2 : Int32), .int (2 : Int32), .int (x5 + (1 : Int32))] I16 L16 (fun r17 I17 L17 => (Q (some (.int (r16 + r17))) I17 L17))))) else (if r2 = (81 : Int32) then (cI G l mX0_run d [.ref 68, .int x1, .int r3, .int (3 : Int32), .int x4, .int (x5 + (1 : Int32))] I4 L4 (fun r18 I18 L18 => (Q (some (.int (r18 - (1 : Int32)))) I18 L18))) else (Q (some (.int (0 : Int32))) I4 L4)))))))))))))
section AC
variable {G : jG} {l : Launch} {d : Nat} {I J : jS} {L : jL} {Q : Int32 → jS → jL → Prop} {Qv : jS → jL → Prop} {n : Int32} {t : List Int32}
def ActC (I J : jS) (n : Int32) (t : List Int32) : Prop := ag [68, 70] [] I J ∧ J 68 2 = I 68 2 ∧ J 68 4 = n ∧ Tr (J 68 3) (J 70) t
theorem tX0_note {x : Int32} (h0 : ActC I J n t) (ht : t.length ≤ 1000) (h : ∀ J', ActC I J' n (t ++ [x]) → Qv J' L) : cV G l mX0_note (d + 1) [.ref 68, .int x] J L Qv := by
  obtain ⟨ha, h2, h4, hT⟩ := h0
  refine wX0_note_ok (Q := fun v I' L' => v = none ∧ Qv I' L') ?_
  unfold wX0_note wX0_note_26
  rw [if_neg (by rw [zlt, z0, hT.1]; omega)]
  refine ife (fun q => ⟨rfl, h _ ⟨agu ha (by decide) (by decide), ?_, ?_, ?_⟩⟩) (fun q => ⟨?_, rfl, h _ ⟨agu (agu ha (by decide) (by decide)) (by decide) (by decide), ?_, ?_, ?_⟩⟩)
  · rw [u2i (by decide)]; exact h2
  · rw [u2i (by decide)]; exact h4
  · rw [zle, zl_24, hT.1] at q
    rw [u2e, u2_ne 70 (by decide)]
    exact Tr_snoc hT ht (fun i => by rw [if_neg (by omega)])
  · rw [zle, zl_24, hT.1] at q
    rw [zin, hT.1]; omega
  · rw [u2i (by decide), u2n (by decide)]; exact h2
  · rw [u2i (by decide), u2n (by decide)]; exact h4
  · rw [zle, zl_24, hT.1] at q
    have e : (J 68 3).toNatClampNeg = t.length := by rw [znat, hT.1]; omega
    have e3 : (u2 J 70 ((J 68 3).toNatClampNeg) x) 68 3 = J 68 3 := u2n (by decide)
    rw [u2e, e3, u2_ne 70 (by decide), e]
    refine Tr_snoc hT ht (fun i => ?_)
    rw [u2_ap]
    by_cases z : i = t.length
    · rw [if_pos ⟨rfl, z⟩, if_pos ⟨by omega, z⟩]
    · rw [if_neg (fun w => z w.2), if_neg (fun w => z w.2)]
theorem tX0_bodyOf {x y : Int32} {k a : Nat} (hst : jSt G) (hx : x.toInt = k) (hk : k < 8) (hy : y.toInt = a) (ha : a < 4) (h : Q (jsl4.getD (4 * k + a) 0) J L) : cI G l mX0_bodyOf (d + 2) [.int x, .int y] J L Q := by
  refine wX0_bodyOf_ok ?_
  unfold wX0_bodyOf
  rw [hst.2.2.2.1]
  refine tX11_isKind (ifz (fun c => absurd (by omega) c) (fun _ => ?_))
  have e1 : (x * 4).toInt = k * 4 := by rw [zmul (by rw [hx, zl_4]; omega) (by rw [hx, zl_4]; omega), hx, zl_4]
  have e2 : (x * 4 + y).toInt = k * 4 + a := by rw [zadd (by rw [e1, hy]; omega) (by rw [e1, hy]; omega), e1, hy]
  rw [if_neg (by rw [zlt, z0]; omega), if_neg (by rw [zle, zl_4]; omega)]
  refine ⟨by rw [zin, e2]; omega, ri ?_⟩
  have e3 : (x * 4 + y).toNatClampNeg = 4 * k + a := by rw [znat, e2]; omega
  rw [e3]
  exact h
theorem tX0_homeOf {x y : Int32} {k a : Nat} (hst : jSt G) (hx : x.toInt = k) (hk : k < 8) (hy : y.toInt = a) (ha : a < 4) (h : ∀ r : Int32, r.toInt = (hmF a 8 k : Nat) → Q r J L) : cI G l mX0_homeOf (d + 3) [.int x, .int y] J L Q := by
  refine wX0_homeOf_ok ?_
  unfold wX0_homeOf
  generalize hR : hmF a 8 k = R at h
  have key : ∀ (m i k : Nat) (x : Int32), i + m = 8 → x.toInt = k → k < 8 → hmF a m k = R → wX0_homeOf_4 G l (d + 2) (fun v I' L' => ∃ r, v = some (.int r) ∧ Q r I' L') (m + 1) y x (Int32.ofNat i) J L := by
    intro m
    induction m with
    | zero =>
      intro i k x hi hx hk he
      unfold wX0_homeOf_4
      rw [if_pos (by rw [zle, zl_8, zo (by omega)]; omega)]
      have he' : k = R := he
      exact ri (h _ (by rw [hx, he']))
    | succ m ih =>
      intro i k x hi hx hk he
      unfold wX0_homeOf_4
      rw [if_neg (by rw [zle, zl_8, zo (by omega)]; omega), if_neg (by rw [zlt, z0, hx]; omega)]
      refine tX0_bodyOf hst hx hk hy ha ?_
      unfold hmF at he
      refine ife (fun q => ?_) (fun q => ?_)
      · rw [if_pos q] at he
        have hu := up_ok hk ha q
        refine tX0_above hst (by omega) ?_
        have ex : x.toInt.toNat = k := by omega
        rw [ex, zsucc]
        exact ih (i + 1) _ _ (by omega) (by omega) (by omega) he
      · rw [if_neg q] at he
        exact ri (h _ (by rw [hx, he]))
  exact ⟨_, key 8 0 k x (by omega) hx hk hR⟩
theorem tX0_pre {x1 x2 x3 x4 x5 : Int32} {k a : Nat} (hst : jSt G) (h2 : x2.toInt = k) (hk : k < 8) (h3 : x3.toInt = a) (ha : a < 4) (h5 : x5.toInt ≤ 40) (B U : Int32) (hB : jsl4.getD (4 * hmF a 8 k + a) 0 = B) (hU : jsl5.getD (hmF a 8 k) 0 = U) (hA : ActC I J n t) (ht : t.length ≤ 1000)
    (h : ∀ J', ActC I J' n (t ++ [B]) → runT G l (d + 3) (fun v I' L' => ∃ r, v = some (.int r) ∧ Q r I' L') x1 x4 x5 B U J' L) : cI G l mX0_run (d + 4) [.ref 68, .int x1, .int x2, .int x3, .int x4, .int x5] J L Q := by
  have hl := hm_lt hk ha
  refine wX0_run_ok ?_
  unfold wX0_run
  refine tX0_homeOf hst h2 hk h3 ha (fun r1 h1 => ?_)
  rw [if_neg (by rw [zlt, z0, h1]; omega), if_pos (by rw [zle, zl_40]; exact h5)]
  refine tX0_bodyOf hst h1 hl h3 ha ?_
  rw [hB]
  refine tX0_above hst (by omega) ?_
  have e : r1.toInt.toNat = hmF a 8 k := by omega
  rw [e, hU]
  exact tX0_note hA ht (fun J' hJ' => h J' hJ')
theorem e1s {x5 : Int32} {e : Nat} (h : x5.toInt = e) (he : e ≤ 39) : (x5 + 1).toInt = ((e + 1 : Nat) : Int) := by rw [zadd (by rw [h, z1]; omega) (by rw [h, z1]; omega), h, z1]; omega

theorem run_1 {x1 x2 x4 x5 : Int32} {k e : Nat} (hst : jSt G) (h2 : x2.toInt = k) (hk : k < 8) (h5 : x5.toInt = e) (he : e ≤ 40) (hB : jsl4.getD (4 * hmF 0 8 k + 0) 0 = 1) (hA : ActC I J n t) (ht : t.length ≤ 1000)
    (h : ∀ J', ActC I J' n (t ++ [1]) → Q (x4 + n) J' L) : cI G l mX0_run (d + 4) [.ref 68, .int x1, .int x2, .int 0, .int x4, .int x5] J L Q := by
  refine tX0_pre hst h2 hk (a := 0) (by decide) (by decide) (by omega) 1 _ hB rfl hA ht (fun J' hJ' => ?_)
  unfold runT
  rw [if_pos rfl]
  refine ri ?_
  rw [hJ'.2.2.1]
  exact h J' hJ'
theorem run_11 {x1 x2 x4 x5 : Int32} {k e : Nat} (hst : jSt G) (h2 : x2.toInt = k) (hk : k < 8) (h5 : x5.toInt = e) (he : e ≤ 40) (hB : jsl4.getD (4 * hmF 2 8 k + 2) 0 = 11) (hA : ActC I J n t) (ht : t.length ≤ 1000)
    (h : ∀ J', ActC I J' n (t ++ [11]) → Q (x4 ^^^ n) J' L) : cI G l mX0_run (d + 4) [.ref 68, .int x1, .int x2, .int 2, .int x4, .int x5] J L Q := by
  refine tX0_pre hst h2 hk (a := 2) (by decide) (by decide) (by omega) 11 _ hB rfl hA ht (fun J' hJ' => ?_)
  unfold runT
  rw [if_neg (by decide), if_neg (by decide), if_neg (by decide), if_pos rfl]
  refine ri ?_
  rw [hJ'.2.2.1]
  exact h J' hJ'
theorem aps {t : List Int32} {a b : Int32} {u : List Int32} : t ++ [a] ++ (b :: u) = t ++ (a :: b :: u) := by simp
theorem run_g {x1 x2 x4 x5 : Int32} {k e : Nat} (hst : jSt G) (h2 : x2.toInt = k) (hk : k < 8) (h5 : x5.toInt = e) (he : e ≤ 39) (hA : ActC I J n t) (ht : t.length ≤ 900)
    (h : ∀ J', ActC I J' n (t ++ gT k) → Q (gV n k x4) J' L) : cI G l mX0_run (d + 5) [.ref 68, .int x1, .int x2, .int 0, .int x4, .int x5] J L Q := by
  have b20 : jsl4.getD (4 * hmF 0 8 k + 0) 0 = 20 → jsl5.getD (hmF 0 8 k) 0 = 0 → gT k = [20, 1] → gV n k x4 = x4 + n + 3 → cI G l mX0_run (d + 5) [.ref 68, .int x1, .int x2, .int 0, .int x4, .int x5] J L Q := fun hB hU hT hV => by
    refine tX0_pre (d := d + 1) hst h2 hk (a := 0) (by decide) (by decide) (by omega) 20 0 hB hU hA (by omega) (fun J' hJ' => ?_)
    unfold runT
    rw [if_neg (by decide), if_neg (by decide), if_neg (by decide), if_neg (by decide), if_pos rfl]
    refine run_1 (k := 0) hst (by decide) (by decide) (e1s h5 (by omega)) (by omega) (by decide) hJ' (by rw [List.length_append]; simp; omega) (fun J2 hJ2 => ri ?_)
    rw [hT, hV] at h
    rw [aps] at hJ2
    exact h J2 hJ2
  have b70 : jsl4.getD (4 * hmF 0 8 k + 0) 0 = 70 → jsl5.getD (hmF 0 8 k) 0 = 0 → gT k = [70, 1] → gV n k x4 = (x4 + n) * 2 → cI G l mX0_run (d + 5) [.ref 68, .int x1, .int x2, .int 0, .int x4, .int x5] J L Q := fun hB hU hT hV => by
    refine tX0_pre (d := d + 1) hst h2 hk (a := 0) (by decide) (by decide) (by omega) 70 0 hB hU hA (by omega) (fun J' hJ' => ?_)
    unfold runT
    rw [if_neg (by decide), if_neg (by decide), if_neg (by decide), if_neg (by decide), if_neg (by decide), if_neg (by decide), if_neg (by decide), if_neg (by decide), if_neg (by decide), if_neg (by decide), if_pos rfl]
    refine run_1 (k := 0) hst (by decide) (by decide) (e1s h5 (by omega)) (by omega) (by decide) hJ' (by rw [List.length_append]; simp; omega) (fun J2 hJ2 => ri ?_)
    rw [hT, hV] at h
    rw [aps] at hJ2
    exact h J2 hJ2
  have b1 : jsl4.getD (4 * hmF 0 8 k + 0) 0 = 1 → gT k = [1] → gV n k x4 = x4 + n → cI G l mX0_run (d + 5) [.ref 68, .int x1, .int x2, .int 0, .int x4, .int x5] J L Q := fun hB hT hV => by
    rw [hT, hV] at h
    exact run_1 (d := d + 1) hst h2 hk h5 (by omega) hB hA (by omega) h
  have h1 : k = 0 ∨ k = 1 ∨ k = 2 ∨ k = 3 ∨ k = 4 ∨ k = 5 ∨ k = 6 ∨ k = 7 := by omega
  rcases h1 with rfl | rfl | rfl | rfl | rfl | rfl | rfl | rfl
  · exact b1 (by decide) rfl rfl
  · exact b20 (by decide) (by decide) rfl rfl
  · exact b1 (by decide) rfl rfl
  · exact b1 (by decide) rfl rfl
  · exact b20 (by decide) (by decide) rfl rfl
  · exact b1 (by decide) rfl rfl
  · exact b70 (by decide) (by decide) rfl rfl
  · exact b20 (by decide) (by decide) rfl rfl
theorem run_w {x1 x2 x4 x5 : Int32} {o k e : Nat} (hst : jSt G) (ho : x1.toInt = o) (hok : o < 8) (h2 : x2.toInt = k) (hk : k < 8) (h5 : x5.toInt = e) (he : e ≤ 37) (hA : ActC I J n t) (ht : t.length ≤ 800)
    (h : ∀ J', ActC I J' n (t ++ wT o k) → Q (wV n o k x4) J' L) : cI G l mX0_run (d + 6) [.ref 68, .int x1, .int x2, .int 2, .int x4, .int x5] J L Q := by
  have b40 : jsl4.getD (4 * hmF 2 8 k + 2) 0 = 40 → jsl5.getD (hmF 2 8 k) 0 = 2 → wT o k = [40, 11] → wV n o k x4 = (x4 ^^^ n) * 3 → cI G l mX0_run (d + 6) [.ref 68, .int x1, .int x2, .int 2, .int x4, .int x5] J L Q := fun hB hU hT hV => by
    refine tX0_pre (d := d + 2) hst h2 hk (a := 2) (by decide) (by decide) (by omega) 40 2 hB hU hA (by omega) (fun J' hJ' => ?_)
    unfold runT
    rw [if_neg (by decide), if_neg (by decide), if_neg (by decide), if_neg (by decide), if_neg (by decide), if_neg (by decide), if_pos rfl]
    refine run_11 (d := d + 1) (k := 2) hst (by decide) (by decide) (e1s h5 (by omega)) (by omega) (by decide) hJ' (by rw [List.length_append]; simp; omega) (fun J2 hJ2 => ri ?_)
    rw [hT, hV] at h
    rw [aps] at hJ2
    exact h J2 hJ2
  have b50 : jsl4.getD (4 * hmF 2 8 k + 2) 0 = 50 → jsl5.getD (hmF 2 8 k) 0 = 1 → wT o k = [50, 11] ++ gT o → wV n o k x4 = (x4 ^^^ n) - gV n o 2 → cI G l mX0_run (d + 6) [.ref 68, .int x1, .int x2, .int 2, .int x4, .int x5] J L Q := fun hB hU hT hV => by
    refine tX0_pre (d := d + 2) hst h2 hk (a := 2) (by decide) (by decide) (by omega) 50 1 hB hU hA (by omega) (fun J' hJ' => ?_)
    unfold runT
    rw [if_neg (by decide), if_neg (by decide), if_neg (by decide), if_neg (by decide), if_neg (by decide), if_neg (by decide), if_neg (by decide), if_neg (by decide), if_pos rfl]
    refine run_11 (d := d + 1) (k := 1) hst (by decide) (by decide) (e1s h5 (by omega)) (by omega) (by decide) hJ' (by rw [List.length_append]; simp; omega) (fun J2 hJ2 => ?_)
    refine run_g (d := d) (k := o) hst ho hok (e1s h5 (by omega)) (by omega) hJ2 (by rw [List.length_append, List.length_append]; simp; omega) (fun J3 hJ3 => ri ?_)
    rw [hT, hV] at h
    rw [aps, List.append_assoc] at hJ3
    exact h J3 hJ3
  have b11 : jsl4.getD (4 * hmF 2 8 k + 2) 0 = 11 → wT o k = [11] → wV n o k x4 = x4 ^^^ n → cI G l mX0_run (d + 6) [.ref 68, .int x1, .int x2, .int 2, .int x4, .int x5] J L Q := fun hB hT hV => by
    rw [hT, hV] at h
    exact run_11 (d := d + 2) hst h2 hk h5 (by omega) hB hA (by omega) h
  have h1 : k = 0 ∨ k = 1 ∨ k = 2 ∨ k = 3 ∨ k = 4 ∨ k = 5 ∨ k = 6 ∨ k = 7 := by omega
  rcases h1 with rfl | rfl | rfl | rfl | rfl | rfl | rfl | rfl
  · exact b11 (by decide) rfl rfl
  · exact b11 (by decide) rfl rfl
  · exact b11 (by decide) rfl rfl
  · exact b40 (by decide) (by decide) rfl rfl
  · exact b50 (by decide) (by decide) rfl rfl
  · exact b40 (by decide) (by decide) rfl rfl
  · exact b11 (by decide) rfl rfl
  · exact b50 (by decide) (by decide) rfl rfl
theorem run_10 {x1 x2 x4 x5 : Int32} {o k e : Nat} (hst : jSt G) (ho : x1.toInt = o) (hok : o < 8) (h2 : x2.toInt = k) (hk : k < 8) (h5 : x5.toInt = e) (he : e ≤ 37) (hB : jsl4.getD (4 * hmF 1 8 k + 1) 0 = 10) (hA : ActC I J n t) (ht : t.length ≤ 850)
    (h : ∀ J', ActC I J' n (t ++ ([10] ++ gT o)) → Q (gV n o x4 * 2) J' L) : cI G l mX0_run (d + 6) [.ref 68, .int x1, .int x2, .int 1, .int x4, .int x5] J L Q := by
  refine tX0_pre (d := d + 2) hst h2 hk (a := 1) (by decide) (by decide) (by omega) 10 _ hB rfl hA (by omega) (fun J' hJ' => ?_)
  unfold runT
  rw [if_neg (by decide), if_neg (by decide), if_pos rfl]
  refine run_g (d := d) (k := o) hst ho hok (e1s h5 (by omega)) (by omega) hJ' (by rw [List.length_append]; simp; omega) (fun J2 hJ2 => ri ?_)
  rw [List.append_assoc] at hJ2
  exact h J2 hJ2
theorem run_30 {x1 x2 x4 x5 : Int32} {o k e : Nat} (hst : jSt G) (ho : x1.toInt = o) (hok : o < 8) (h2 : x2.toInt = k) (hk : k < 8) (h5 : x5.toInt = e) (he : e ≤ 36) (hB : jsl4.getD (4 * hmF 1 8 k + 1) 0 = 30) (hU : jsl5.getD (hmF 1 8 k) 0 = 0) (hA : ActC I J n t) (ht : t.length ≤ 840)
    (h : ∀ J', ActC I J' n (t ++ ([30, 10] ++ gT o)) → Q (-(gV n o x4 * 2)) J' L) : cI G l mX0_run (d + 7) [.ref 68, .int x1, .int x2, .int 1, .int x4, .int x5] J L Q := by
  refine tX0_pre (d := d + 3) hst h2 hk (a := 1) (by decide) (by decide) (by omega) 30 0 hB hU hA (by omega) (fun J' hJ' => ?_)
  unfold runT
  rw [if_neg (by decide), if_neg (by decide), if_neg (by decide), if_neg (by decide), if_neg (by decide), if_pos rfl]
  refine run_10 (d := d) (k := 0) hst ho hok (by decide) (by decide) (e1s h5 (by omega)) (by omega) (by decide) hJ' (by rw [List.length_append]; simp; omega) (fun J2 hJ2 => ri ?_)
  rw [List.append_assoc] at hJ2
  exact h J2 hJ2
theorem run_b {x1 x2 x4 x5 : Int32} {o k e : Nat} (hst : jSt G) (ho : x1.toInt = o) (hok : o < 8) (h2 : x2.toInt = k) (hk : k < 8) (h5 : x5.toInt = e) (he : e ≤ 34) (hA : ActC I J n t) (ht : t.length ≤ 700)
    (h : ∀ J', ActC I J' n (t ++ bT o k) → Q (bV n o k x4) J' L) : cI G l mX0_run (d + 8) [.ref 68, .int x1, .int x2, .int 1, .int x4, .int x5] J L Q := by
  have b41 : jsl4.getD (4 * hmF 1 8 k + 1) 0 = 41 → jsl5.getD (hmF 1 8 k) 0 = 2 → bT o k = [41, 30, 10] ++ gT o → bV n o k x4 = -(gV n o (x4 + 1) * 2) → cI G l mX0_run (d + 8) [.ref 68, .int x1, .int x2, .int 1, .int x4, .int x5] J L Q := fun hB hU hT hV => by
    refine tX0_pre (d := d + 4) hst h2 hk (a := 1) (by decide) (by decide) (by omega) 41 2 hB hU hA (by omega) (fun J' hJ' => ?_)
    unfold runT
    rw [if_neg (by decide), if_neg (by decide), if_neg (by decide), if_neg (by decide), if_neg (by decide), if_neg (by decide), if_neg (by decide), if_pos rfl]
    refine run_30 (d := d) (k := 2) hst ho hok (by decide) (by decide) (e1s h5 (by omega)) (by omega) (by decide) (by decide) hJ' (by rw [List.length_append]; simp; omega) (fun J2 hJ2 => ri ?_)
    rw [hT, hV] at h
    rw [List.append_assoc] at hJ2
    exact h J2 hJ2
  have b80 : jsl4.getD (4 * hmF 1 8 k + 1) 0 = 80 → jsl5.getD (hmF 1 8 k) 0 = 4 → bT o k = [80, 10] ++ gT o ++ wT o o → bV n o k x4 = gV n o x4 * 2 + wV n o o 2 → cI G l mX0_run (d + 8) [.ref 68, .int x1, .int x2, .int 1, .int x4, .int x5] J L Q := fun hB hU hT hV => by
    have hgl := gT_l (k := o)
    refine tX0_pre (d := d + 4) hst h2 hk (a := 1) (by decide) (by decide) (by omega) 80 4 hB hU hA (by omega) (fun J' hJ' => ?_)
    unfold runT
    rw [if_neg (by decide), if_neg (by decide), if_neg (by decide), if_neg (by decide), if_neg (by decide), if_neg (by decide), if_neg (by decide), if_neg (by decide), if_neg (by decide), if_neg (by decide), if_neg (by decide), if_pos rfl]
    refine run_10 (d := d + 1) (k := 4) hst ho hok (by decide) (by decide) (e1s h5 (by omega)) (by omega) (by decide) hJ' (by rw [List.length_append]; simp; omega) (fun J2 hJ2 => ?_)
    refine run_w (d := d + 1) (k := o) hst ho hok ho hok (e1s h5 (by omega)) (by omega) hJ2 (by simp only [List.length_append]; simp; omega) (fun J3 hJ3 => ri ?_)
    rw [hT, hV] at h
    have e : t ++ [80] ++ ([10] ++ gT o) ++ wT o o = t ++ ([80, 10] ++ gT o ++ wT o o) := by simp
    rw [e] at hJ3
    exact h J3 hJ3
  have b30 : jsl4.getD (4 * hmF 1 8 k + 1) 0 = 30 → jsl5.getD (hmF 1 8 k) 0 = 0 → bT o k = [30, 10] ++ gT o → bV n o k x4 = -(gV n o x4 * 2) → cI G l mX0_run (d + 8) [.ref 68, .int x1, .int x2, .int 1, .int x4, .int x5] J L Q := fun hB hU hT hV => by
    rw [hT, hV] at h
    exact run_30 (d := d + 1) hst ho hok h2 hk h5 (by omega) hB hU hA (by omega) h
  have b10 : jsl4.getD (4 * hmF 1 8 k + 1) 0 = 10 → bT o k = [10] ++ gT o → bV n o k x4 = gV n o x4 * 2 → cI G l mX0_run (d + 8) [.ref 68, .int x1, .int x2, .int 1, .int x4, .int x5] J L Q := fun hB hT hV => by
    rw [hT, hV] at h
    exact run_10 (d := d + 2) hst ho hok h2 hk h5 (by omega) hB hA (by omega) h
  have h1 : k = 0 ∨ k = 1 ∨ k = 2 ∨ k = 3 ∨ k = 4 ∨ k = 5 ∨ k = 6 ∨ k = 7 := by omega
  rcases h1 with rfl | rfl | rfl | rfl | rfl | rfl | rfl | rfl
  · exact b10 (by decide) rfl rfl
  · exact b10 (by decide) rfl rfl
  · exact b30 (by decide) (by decide) rfl rfl
  · exact b41 (by decide) (by decide) rfl rfl
  · exact b10 (by decide) rfl rfl
  · exact b41 (by decide) (by decide) rfl rfl
  · exact b10 (by decide) rfl rfl
  · exact b80 (by decide) (by decide) rfl rfl
theorem run_2 {x1 x2 x4 x5 : Int32} {o k e : Nat} (hst : jSt G) (ho : x1.toInt = o) (hok : o < 8) (h2 : x2.toInt = k) (hk : k < 8) (h5 : x5.toInt = e) (he : e ≤ 32) (hB : jsl4.getD (4 * hmF 3 8 k + 3) 0 = 2) (hA : ActC I J n t) (ht : t.length ≤ 600)
    (h : ∀ J', ActC I J' n (t ++ ([2] ++ bT o o ++ wT o o)) → Q (bV n o o x4 - wV n o o 1) J' L) : cI G l mX0_run (d + 9) [.ref 68, .int x1, .int x2, .int 3, .int x4, .int x5] J L Q := by
  have hbl := bT_l (o := o) (k := o)
  refine tX0_pre (d := d + 5) hst h2 hk (a := 3) (by decide) (by decide) (by omega) 2 _ hB rfl hA (by omega) (fun J' hJ' => ?_)
  unfold runT
  rw [if_neg (by decide), if_pos rfl]
  refine run_b (d := d) (k := o) hst ho hok ho hok (e1s h5 (by omega)) (by omega) hJ' (by rw [List.length_append]; simp; omega) (fun J2 hJ2 => ?_)
  refine run_w (d := d + 2) (k := o) hst ho hok ho hok (e1s h5 (by omega)) (by omega) hJ2 (by simp only [List.length_append]; simp; omega) (fun J3 hJ3 => ri ?_)
  have e : t ++ [2] ++ bT o o ++ wT o o = t ++ ([2] ++ bT o o ++ wT o o) := by simp
  rw [e] at hJ3
  exact h J3 hJ3
theorem run_t {x1 x2 x4 x5 : Int32} {o k e : Nat} (hst : jSt G) (ho : x1.toInt = o) (hok : o < 8) (h2 : x2.toInt = k) (hk : k < 8) (h5 : x5.toInt = e) (he : e ≤ 30) (hA : ActC I J n t) (ht : t.length ≤ 500)
    (h : ∀ J', ActC I J' n (t ++ tT o k) → Q (tV n o k x4) J' L) : cI G l mX0_run (d + 10) [.ref 68, .int x1, .int x2, .int 3, .int x4, .int x5] J L Q := by
  have b60 : jsl4.getD (4 * hmF 3 8 k + 3) 0 = 60 → jsl5.getD (hmF 3 8 k) 0 = 3 → tT o k = [60, 2] ++ bT o o ++ wT o o → tV n o k x4 = (bV n o o x4 - wV n o o 1) ^^^ 5 → cI G l mX0_run (d + 10) [.ref 68, .int x1, .int x2, .int 3, .int x4, .int x5] J L Q := fun hB hU hT hV => by
    refine tX0_pre (d := d + 6) hst h2 hk (a := 3) (by decide) (by decide) (by omega) 60 3 hB hU hA (by omega) (fun J' hJ' => ?_)
    unfold runT
    rw [if_neg (by decide), if_neg (by decide), if_neg (by decide), if_neg (by decide), if_neg (by decide), if_neg (by decide), if_neg (by decide), if_neg (by decide), if_neg (by decide), if_pos rfl]
    refine run_2 (d := d) (k := 3) hst ho hok (by decide) (by decide) (e1s h5 (by omega)) (by omega) (by decide) hJ' (by rw [List.length_append]; simp; omega) (fun J2 hJ2 => ri ?_)
    rw [hT, hV] at h
    have e : t ++ [60] ++ ([2] ++ bT o o ++ wT o o) = t ++ ([60, 2] ++ bT o o ++ wT o o) := by simp
    rw [e] at hJ2
    exact h J2 hJ2
  have b81 : jsl4.getD (4 * hmF 3 8 k + 3) 0 = 81 → jsl5.getD (hmF 3 8 k) 0 = 4 → tT o k = [81, 2] ++ bT o o ++ wT o o → tV n o k x4 = (bV n o o x4 - wV n o o 1) - 1 → cI G l mX0_run (d + 10) [.ref 68, .int x1, .int x2, .int 3, .int x4, .int x5] J L Q := fun hB hU hT hV => by
    refine tX0_pre (d := d + 6) hst h2 hk (a := 3) (by decide) (by decide) (by omega) 81 4 hB hU hA (by omega) (fun J' hJ' => ?_)
    unfold runT
    rw [if_neg (by decide), if_neg (by decide), if_neg (by decide), if_neg (by decide), if_neg (by decide), if_neg (by decide), if_neg (by decide), if_neg (by decide), if_neg (by decide), if_neg (by decide), if_neg (by decide), if_neg (by decide), if_pos rfl]
    refine run_2 (d := d) (k := 4) hst ho hok (by decide) (by decide) (e1s h5 (by omega)) (by omega) (by decide) hJ' (by rw [List.length_append]; simp; omega) (fun J2 hJ2 => ri ?_)
    rw [hT, hV] at h
    have e : t ++ [81] ++ ([2] ++ bT o o ++ wT o o) = t ++ ([81, 2] ++ bT o o ++ wT o o) := by simp
    rw [e] at hJ2
    exact h J2 hJ2
  have b2 : jsl4.getD (4 * hmF 3 8 k + 3) 0 = 2 → tT o k = [2] ++ bT o o ++ wT o o → tV n o k x4 = bV n o o x4 - wV n o o 1 → cI G l mX0_run (d + 10) [.ref 68, .int x1, .int x2, .int 3, .int x4, .int x5] J L Q := fun hB hT hV => by
    rw [hT, hV] at h
    exact run_2 (d := d + 1) hst ho hok h2 hk h5 (by omega) hB hA (by omega) h
  have h1 : k = 0 ∨ k = 1 ∨ k = 2 ∨ k = 3 ∨ k = 4 ∨ k = 5 ∨ k = 6 ∨ k = 7 := by omega
  rcases h1 with rfl | rfl | rfl | rfl | rfl | rfl | rfl | rfl
  · exact b2 (by decide) rfl rfl
  · exact b2 (by decide) rfl rfl
  · exact b2 (by decide) rfl rfl
  · exact b2 (by decide) rfl rfl
  · exact b2 (by decide) rfl rfl
  · exact b60 (by decide) (by decide) rfl rfl
  · exact b2 (by decide) rfl rfl
  · exact b81 (by decide) (by decide) rfl rfl
end AC

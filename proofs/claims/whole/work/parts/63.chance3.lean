/-! how likely: products, common parts; the reference's sets -/
/-- how many ways a square has to be thin or not -/
def wv (p : Nat → Nat → Int) (way : Nat) (b : Int) (k : Nat) (t : Bool) : Int := if t = true then (if (k : Int) = b then 0 else p 2 (8 * way + k)) else 12 - (if (k : Int) = b then 0 else p 2 (8 * way + k))
def gO (F : Option lF) (p : Nat → Nat → Int) (I : jS) (way : Nat) (ls : List Nat) (T : Nat) : Bool := all8 (fun j => hB F p I way ls j (T.testBit j))
theorem LK_sum {F : Option lF} {p : Nat → Nat → Int} {I : jS} {way : Nat} {ls : List Nat} {b : Int} : nsum (fun T => if gO F p I way ls T = true then prodP (fun k => wv p way b k (T.testBit k)) 8 else 0) 256 = LK F p I way ls b := by
  have h := dist (u := fun k t => if hB F p I way ls k t = true then wv p way b k t else 0) 8
  have e1 : nsum (fun T => if gO F p I way ls T = true then prodP (fun k => wv p way b k (T.testBit k)) 8 else 0) 256 = nsum (fun T => prodP (fun k => if hB F p I way ls k (T.testBit k) = true then wv p way b k (T.testBit k) else 0) 8) (2 ^ 8) := nsum_cg 256 (fun T _ => by
    unfold gO
    by_cases q : ∀ j, j < 8 → hB F p I way ls j (T.testBit j) = true
    · rw [if_pos (all8_t.mpr q), prodP_if1 (B := fun k => hB F p I way ls k (T.testBit k)) (w := fun k => wv p way b k (T.testBit k)) 8 q]
    · rw [if_neg (fun z => q (all8_t.mp z)), prodP_if0 (B := fun k => hB F p I way ls k (T.testBit k)) (w := fun k => wv p way b k (T.testBit k)) 8 q])
  rw [e1]
  have h : nsum (fun T => prodP (fun k => if hB F p I way ls k (T.testBit k) = true then wv p way b k (T.testBit k) else 0) 8) (2 ^ 8) = prodP (fun k => (if hB F p I way ls k false = true then wv p way b k false else 0) + (if hB F p I way ls k true = true then wv p way b k true else 0)) 8 := h
  rw [h]
  unfold LK
  refine prodP_cg 8 (fun k hk => ?_)
  have w0 : wv p way b k false = 12 - (if (k : Int) = b then 0 else p 2 (8 * way + k)) := rfl
  have w1 : wv p way b k true = (if (k : Int) = b then 0 else p 2 (8 * way + k)) := rfl
  rw [w0, w1]
  unfold aB aZ
  by_cases q : (k : Int) = b
  · rw [if_pos q, if_pos q]
    by_cases q1 : hB F p I way ls k false = true
    · rw [if_pos q1, if_pos q1]
      by_cases q2 : hB F p I way ls k true = true
      · rw [if_pos q2]; omega
      · rw [if_neg q2]; omega
    · rw [if_neg q1, if_neg q1]
      by_cases q2 : hB F p I way ls k true = true
      · rw [if_pos q2]; omega
      · rw [if_neg q2]; omega
  · rw [if_neg q, if_neg q]
theorem GZ_0 {c : Int} (h : c = 0 ∨ c = 1) : GZ 0 c = c := by
  unfold GZ
  rcases h with rfl | rfl <;> decide
section C6
variable {G : jG} {l : Launch} {d k : Nat} {F : Option lF} {g : Int} {p : Nat → Nat → Int} {I : jS} {L : jL} {st wk : Nat → Int} {mn : Int} {Q : Int32 → jS → jL → Prop} {QJ : Int64 → jS → jL → Prop} {Qv : jS → jL → Prop}
theorem LK_b {way : Nat} {ls : List Nat} {b : Int} (hp : ∀ k, k < 8 → 0 ≤ p 2 (8 * way + k) ∧ p 2 (8 * way + k) ≤ 12) : 0 ≤ LK F p I way ls b ∧ LK F p I way ls b ≤ 429981696 := by
  have := prodP_b (f := fun k => if (k : Int) = b then aB F p I way ls k else aZ F p I way ls k) 8 (fun k hk => by
    have h := aZ_b (F := F) (I := I) (ls := ls) (hp k hk)
    by_cases q : (k : Int) = b
    · rw [if_pos q]; exact h.2
    · rw [if_neg q]; exact h.1)
  unfold LK
  exact ⟨this.1, Int.le_trans this.2 (pow12 (by omega))⟩
theorem w32 {x : Int32} : (x.toInt64).toInt = x.toInt := Int32.toInt_toInt64 x
theorem tX1_likelyBored {x : Int32} {way : Nat} {ls : List Nat} {J : jS} (hp : ∀ k, k < 8 → 0 ≤ p 2 (8 * way + k) ∧ p 2 (8 * way + k) ≤ 12) (hv : ∀ k, k < 8 → (J 55 k).toInt = aZ F p I way ls k ∧ (J 56 k).toInt = aB F p I way ls k)
    (h : ∀ r : Int64, r.toInt = LK F p I way ls x.toInt → QJ r J L) : cJ G l mX1_likelyBored (d + 1) [.ref 51, .int x] J L QJ := by
  refine wX1_likelyBored_ok ?_
  unfold wX1_likelyBored
  unfold LK at h
  generalize hf : (fun (k : Nat) => if (k : Int) = x.toInt then aB F p I way ls k else aZ F p I way ls k) = f at h
  have hfb : ∀ k, k < 8 → 0 ≤ f k ∧ f k ≤ 12 := fun k hk => by
    have h := aZ_b (F := F) (I := I) (ls := ls) (hp k hk)
    rw [← hf]
    simp only
    by_cases q : (k : Int) = x.toInt
    · rw [if_pos q]; exact h.2
    · rw [if_neg q]; exact h.1
  have key : ∀ (m i : Nat) (y : Int64), i + m = 8 → y.toInt = prodP f i → wX1_likelyBored_5 G l d (fun v I' L' => ∃ r, v = some (.long r) ∧ QJ r I' L') (m + 1) x y (Int32.ofNat i) J L := by
    intro m
    induction m with
    | zero =>
      intro i y hi hy
      have : i = 8 := by omega
      subst this
      unfold wX1_likelyBored_5
      rw [if_pos (by decide)]
      exact rl (h y hy)
    | succ m ih =>
      intro i y hi hy
      have hb := prodP_b (f := f) i (fun k hk => hfb k (by omega))
      have hb2 := pow12 (i := i) (by omega)
      have hfi := hfb i (by omega)
      have hvi := hv i (by omega)
      have hpi : prodP f (i + 1) = prodP f i * f i := rfl
      have hmul : ∀ v : Int32, v.toInt = f i → (y * v.toInt64).toInt = prodP f (i + 1) := fun v hv' => by
        have hb3 := prodP_b (f := f) (i + 1) (fun k hk => hfb k (by omega))
        have hb4 := pow12 (i := i + 1) (by omega)
        rw [hpi] at hb3
        rw [wmul (by rw [w32, hv', hy]; omega) (by rw [w32, hv', hy]; omega), w32, hv', hy, hpi]
      have hin : vp_in (Int32.ofNat i) 8 := by rw [zin, zo (by omega)]; omega
      have hfv : f i = if (i : Int) = x.toInt then aB F p I way ls i else aZ F p I way ls i := by rw [← hf]
      unfold wX1_likelyBored_5
      rw [if_neg (by rw [zle, zl_8, zo (by omega)]; omega)]
      refine ife (fun q => ⟨hin, ?_⟩) (fun q => ⟨hin, ?_⟩)
      · rw [zeq, zo (by omega)] at q
        rw [if_pos q] at hfv
        rw [zon (by omega), zsucc]
        exact ih (i + 1) _ (by omega) (hmul _ (by rw [hvi.2, hfv]))
      · rw [zeq, zo (by omega)] at q
        rw [if_neg q] at hfv
        rw [zon (by omega), zsucc]
        exact ih (i + 1) _ (by omega) (hmul _ (by rw [hvi.1, hfv]))
  exact ⟨_, key 8 0 1 (by omega) rfl⟩
theorem tX1_bestBored {way : Nat} {ls : List Nat} {J : jS} (hp : ∀ k, k < 8 → 0 ≤ p 2 (8 * way + k) ∧ p 2 (8 * way + k) ≤ 12) (hv : ∀ k, k < 8 → (J 55 k).toInt = aZ F p I way ls k ∧ (J 56 k).toInt = aB F p I way ls k)
    (h : ∀ r : Int32, r.toInt = (bst8 (fun k => LK F p I way ls k) 7 1 0 : Nat) → Q r J L) : cI G l mX1_bestBored (d + 2) [.ref 51] J L Q := by
  refine wX1_bestBored_ok ?_
  unfold wX1_bestBored
  generalize hR : bst8 (fun k => LK F p I way ls k) 7 1 0 = R at h
  have key : ∀ (m r b : Nat), r + m = 8 → b < r → bst8 (fun k => LK F p I way ls k) m r b = R → wX1_bestBored_4 G l (d + 1) (fun v I' L' => ∃ r, v = some (.int r) ∧ Q r I' L') (m + 1) (Int32.ofNat b) (Int32.ofNat r) J L := by
    intro m
    induction m with
    | zero =>
      intro r b hr hb he
      unfold wX1_bestBored_4
      rw [if_pos (by rw [zle, zl_8, zo (by omega)]; omega)]
      have he' : b = R := he
      exact ri (h _ (by rw [zo (by omega), he']))
    | succ m ih =>
      intro r b hr hb he
      unfold wX1_bestBored_4
      rw [if_neg (by rw [zle, zl_8, zo (by omega)]; omega)]
      refine tX1_likelyBored hp hv (fun r1 h1 => tX1_likelyBored hp hv (fun r2 h2 => ?_))
      rw [zo (by omega)] at h1 h2
      unfold bst8 at he
      rw [zsucc]
      refine ife (fun q => ?_) (fun q => ?_)
      · have q : ¬ r2 < r1 := fun z => by
          have z2 := lcmp_gt.mpr z
          rw [zlt, z0] at z2
          rw [zle, z0] at q
          omega
        rw [Int64.lt_iff_toInt_lt, h1, h2] at q
        rw [if_neg q] at he
        exact ih (r + 1) b (by omega) (by omega) he
      · have q : r2 < r1 := by
          refine lcmp_gt.mp ?_
          rw [zlt, z0]
          rw [zle, z0] at q
          omega
        rw [Int64.lt_iff_toInt_lt, h1, h2] at q
        rw [if_pos q] at he
        exact ih (r + 1) r (by omega) (by omega) he
  exact ⟨_, key 7 1 0 (by omega) (by omega) hR⟩
theorem tX1_common {y z : Int64} {x1 x2 : Nat} (h1 : y.toInt = x1) (h2 : z.toInt = x2) (hb1 : x1 ≤ 429981696) (hb2 : x2 ≤ 429981696) (h : ∀ r : Int64, r.toInt = (Nat.gcd x1 x2 : Nat) → QJ r I L) : cJ G l mX1_common (d + 1) [.long y, .long z] I L QJ := by
  refine wX1_common_ok ?_
  unfold wX1_common
  have key : ∀ (n i a b : Nat) (y z : Int64), i + n ≤ 190 → a * b < 2 ^ n → b ≤ a → a ≤ 429981696 → y.toInt = a → z.toInt = b → Nat.gcd a b = Nat.gcd x1 x2 → wX1_common_9 G l d (fun v I' L' => ∃ r, v = some (.long r) ∧ QJ r I' L') (n + 1) y z (Int32.ofNat i) I L := by
    intro n
    induction n with
    | zero =>
      intro i a b y z hi hab hle ha hy hz hg
      have hb := eu_zero hab hle
      unfold wX1_common_9
      rw [if_neg (by rw [zle, zl_200, zo (by omega)]; omega), if_pos (lcmp_eq.mpr (by rw [← Int64.toInt_inj, hz, hb]; rfl))]
      rw [hb, Nat.gcd_zero_right] at hg
      exact rl (h y (by rw [hy, hg]))
    | succ n ih =>
      intro i a b y z hi hab hle ha hy hz hg
      unfold wX1_common_9
      rw [if_neg (by rw [zle, zl_200, zo (by omega)]; omega)]
      refine ife (fun q => ?_) (fun q => ⟨fun w => q (lcmp_eq.mpr w), ?_⟩)
      · have q := lcmp_eq.mp q
        rw [← Int64.toInt_inj, hz, zm_0] at q
        have hb : b = 0 := by omega
        rw [hb, Nat.gcd_zero_right] at hg
        exact rl (h y (by rw [hy, hg]))
      · have hb : b ≠ 0 := fun w => q (lcmp_eq.mpr (by rw [← Int64.toInt_inj, hz, w]; rfl))
        rw [zsucc]
        have hm := Nat.mod_lt a (show 0 < b by omega)
        exact ih (i + 1) b (a % b) _ _ (by omega) (eu_step hab hle (by omega)) (by omega) (by omega) hz (wmod hy hz (by omega)) (by rw [← eu_gcd]; exact hg)
  by_cases q : x2 ≤ x1
  · have hm : x1 * x2 < 2 ^ 60 := Nat.lt_of_le_of_lt (Nat.mul_le_mul hb1 hb2) (by decide)
    exact ⟨_, key 60 0 x1 x2 y z (by omega) hm q hb1 h1 h2 rfl⟩
  · have hm : x2 * (x1 % x2) < 2 ^ 60 := Nat.lt_of_le_of_lt (Nat.mul_le_mul hb2 (Nat.le_trans (Nat.mod_le _ _) hb1)) (by decide)
    have hl := Nat.mod_lt x1 (show 0 < x2 by omega)
    refine ⟨60 + 1 + 1, ?_⟩
    have hx2 : ¬ lg_cmp z 0 = 0 := fun w => by
      have w := lcmp_eq.mp w
      rw [← Int64.toInt_inj, h2, zm_0] at w
      omega
    unfold wX1_common_9
    rw [if_neg (by decide), if_neg hx2]
    exact ⟨fun w => hx2 (lcmp_eq.mpr w), key 60 1 x2 (x1 % x2) _ _ (by omega) hm (by omega) hb2 h2 (wmod h1 h2 (by omega)) (by rw [← eu_gcd])⟩
theorem gcd_pos {x : Nat} : 0 < Nat.gcd x 429981696 := Nat.gcd_pos_of_pos_right _ (by decide)
theorem gcd_le {x : Nat} : Nat.gcd x 429981696 ≤ 429981696 := Nat.le_of_dvd (by decide) (Nat.gcd_dvd_right _ _)
theorem tX1_part {y : Int64} {x : Int32} {A : Int} (hy : y.toInt = A) (hA : 0 ≤ A ∧ A ≤ 429981696) (h : ∀ r : Int64, r.toInt = GZ A x.toInt → QJ r I L) : cJ G l mX1_part (d + 2) [.ref 51, .long y, .int x] I L QJ := by
  refine wX1_part_ok ?_
  unfold wX1_part
  have hAn : y.toInt = (A.toNat : Nat) := by omega
  unfold GZ at h
  refine tX1_common (x2 := 429981696) hAn (by decide) (by omega) (by omega) (fun r hr => ?_)
  have hp := gcd_pos (x := A.toNat)
  have hr0 : ¬ lg_cmp r 0 = 0 := fun w => by
    have w := lcmp_eq.mp w
    rw [← Int64.toInt_inj, hr, zm_0] at w
    omega
  rw [if_neg hr0]
  refine ife (fun q => ⟨fun w => hr0 (lcmp_eq.mpr w), rl (h _ ?_)⟩) (fun q => ⟨fun w => hr0 (lcmp_eq.mpr w), rl (h _ ?_)⟩)
  · rw [zeq, z0] at q
    rw [if_pos q, wdiv hAn hr (by omega)]
  · rw [zeq, z0] at q
    rw [if_neg q, wdiv (x := 429981696) (by decide) hr (by omega)]
theorem tX12_commonOf {y z : Int64} {x1 x2 : Nat} (h1 : y.toInt = x1) (h2 : z.toInt = x2) (hle : x2 ≤ x1) (hb1 : x1 ≤ 429981696) (h : ∀ r : Int64, r.toInt = (Nat.gcd x1 x2 : Nat) → QJ r I L) : cJ G l mX12_commonOf (d + 1) [.long y, .long z] I L QJ := by
  refine wX12_commonOf_ok ?_
  unfold wX12_commonOf
  have key : ∀ (n a b : Nat) (y z : Int64), a * b < 2 ^ n → b ≤ a → a ≤ 429981696 → y.toInt = a → z.toInt = b → Nat.gcd a b = Nat.gcd x1 x2 → wX12_commonOf_6 G l d (fun v I' L' => ∃ r, v = some (.long r) ∧ QJ r I' L') (n + 1) y z I L := by
    intro n
    induction n with
    | zero =>
      intro a b y z hab hle ha hy hz hg
      have hb := eu_zero hab hle
      unfold wX12_commonOf_6
      rw [if_pos (lcmp_eq.mpr (by rw [← Int64.toInt_inj, hz, hb]; rfl))]
      rw [hb, Nat.gcd_zero_right] at hg
      exact rl (h y (by rw [hy, hg]))
    | succ n ih =>
      intro a b y z hab hle ha hy hz hg
      unfold wX12_commonOf_6
      refine ife (fun q => ?_) (fun q => ⟨fun w => q (lcmp_eq.mpr w), ?_⟩)
      · have q := lcmp_eq.mp q
        rw [← Int64.toInt_inj, hz, zm_0] at q
        have hb : b = 0 := by omega
        rw [hb, Nat.gcd_zero_right] at hg
        exact rl (h y (by rw [hy, hg]))
      · have hb : b ≠ 0 := fun w => q (lcmp_eq.mpr (by rw [← Int64.toInt_inj, hz, w]; rfl))
        have hm := Nat.mod_lt a (show 0 < b by omega)
        exact ih b (a % b) _ _ (eu_step hab hle (by omega)) (by omega) (by omega) hz (wmod hy hz (by omega)) (by rw [← eu_gcd]; exact hg)
  have hm : x1 * x2 < 2 ^ 60 := Nat.lt_of_le_of_lt (Nat.mul_le_mul hb1 (Nat.le_trans hle hb1)) (by decide)
  exact ⟨_, key 60 x1 x2 y z hm hle hb1 h1 h2 rfl⟩
theorem tX12_partOf {y : Int64} {x : Int32} {A : Int} (hy : y.toInt = A) (hA : 0 ≤ A ∧ A ≤ 429981696) (hx : x.toInt = 0 ∨ x.toInt = 1) (h : ∀ r : Int64, r.toInt = GZ A x.toInt → QJ r I L) : cJ G l mX12_partOf (d + 2) [.long y, .long 429981696, .int x] I L QJ := by
  refine wX12_partOf_ok ?_
  unfold wX12_partOf
  have hAn : y.toInt = (A.toNat : Nat) := by omega
  refine ife (fun q => rl (h _ ?_)) (fun q => ?_)
  · have q := lcmp_eq.mp q
    rw [← Int64.toInt_inj, hy, zm_0] at q
    rw [q, GZ_0 hx, w32]
  · unfold GZ at h
    refine tX12_commonOf (x1 := 429981696) (by decide) hAn (by omega) (by omega) (fun r hr => ?_)
    rw [Nat.gcd_comm] at hr
    have hp := gcd_pos (x := A.toNat)
    have hr0 : ¬ r = 0 := fun w => by
      rw [← Int64.toInt_inj, hr, zm_0] at w
      omega
    refine ife (fun q => ⟨hr0, rl (h _ ?_)⟩) (fun q => ⟨hr0, rl (h _ ?_)⟩)
    · rw [zeq, z0] at q
      rw [if_pos q, wdiv hAn hr (by omega)]
    · rw [zeq, z0] at q
      rw [if_neg q, wdiv (x := 429981696) (by decide) hr (by omega)]
theorem tX12_waysOf {x y z : Int32} {way T : Nat} (hF : Fr G l F g p I) (hx : x.toInt = way) (hw : way < 3) (hT : T < 256) (hy : y = Int32.ofNat T)
    (h : ∀ r : Int64, r.toInt = prodP (fun k => wv p way z.toInt k (T.testBit k)) 8 → QJ r I L) : cJ G l mX12_waysOf (d + 2) [.ref 71, .int x, .int y, .int z] I L QJ := by
  subst hy
  refine wX12_waysOf_ok ?_
  unfold wX12_waysOf
  generalize hf : (fun k => wv p way z.toInt k (T.testBit k)) = f at h
  have hp : ∀ k, k < 8 → 0 ≤ p 2 (8 * way + k) ∧ p 2 (8 * way + k) ≤ 12 := fun k hk => pok_2 (hF.sq (s := 8 * way + k) (by omega) (w := 2) (by decide)).2.2
  have hfb : ∀ k, k < 8 → 0 ≤ f k ∧ f k ≤ 12 := fun k hk => by
    have h := hp k hk
    rw [← hf]
    simp only
    unfold wv
    by_cases q : (k : Int) = z.toInt
    · rw [if_pos q]
      by_cases q2 : T.testBit k = true
      · rw [if_pos q2]; omega
      · rw [if_neg q2]; omega
    · rw [if_neg q]
      by_cases q2 : T.testBit k = true
      · rw [if_pos q2]; omega
      · rw [if_neg q2]; omega
  have key : ∀ (m i : Nat) (y : Int64), i + m = 8 → y.toInt = prodP f i → wX12_waysOf_6 G l (d + 1) (fun v I' L' => ∃ r, v = some (.long r) ∧ QJ r I' L') (m + 1) x (Int32.ofNat T) z y (Int32.ofNat i) I L := by
    intro m
    induction m with
    | zero =>
      intro i y hi hy
      have : i = 8 := by omega
      subst this
      unfold wX12_waysOf_6
      rw [if_pos (by decide)]
      exact rl (h y hy)
    | succ m ih =>
      intro i y hi hy
      have hb := prodP_b (f := f) i (fun k hk => hfb k (by omega))
      have hb2 := pow12 (i := i) (by omega)
      have hpi : prodP f (i + 1) = prodP f i * f i := rfl
      have hpp := hp i (by omega)
      have hmul : ∀ v : Int32, v.toInt = f i → (y * v.toInt64).toInt = prodP f (i + 1) := fun v hv' => by
        have hb3 := prodP_b (f := f) (i + 1) (fun k hk => hfb k (by omega))
        have hb4 := pow12 (i := i + 1) (by omega)
        rw [hpi] at hb3
        rw [wmul (by rw [w32, hv', hy]; omega) (by rw [w32, hv', hy]; omega), w32, hv', hy, hpi]
      have hfv : f i = wv p way z.toInt i (T.testBit i) := by rw [← hf]
      have hbit : bitP (Int32.ofNat T) (Int32.ofNat i) ↔ T.testBit i = true := by
        have := bitP_bt (x := Int32.ofNat T) (k := i) (by omega)
        rw [bt_nat hT (by omega)] at this
        exact this
      have tail : ∀ t0 : Int32, t0.toInt = (if (i : Int) = z.toInt then 0 else p 2 (8 * way + i)) → wX12_waysOf_38 G l (d + 1) (fun z0 z1 z2 z3 z4 I L => wX12_waysOf_6 G l (d + 1) (fun v I' L' => ∃ r, v = some (.long r) ∧ QJ r I' L') (m + 1) z0 z1 z2 z3 z4 I L) (fun v I' L' => ∃ r, v = some (.long r) ∧ QJ r I' L') x (Int32.ofNat T) z y (Int32.ofNat i) t0 I L := fun t0 ht0 => by
        have ht1 : 0 ≤ t0.toInt ∧ t0.toInt ≤ 12 := by
          rw [ht0]
          by_cases q : (i : Int) = z.toInt
          · rw [if_pos q]; omega
          · rw [if_neg q]; exact hpp
        unfold wX12_waysOf_38
        rw [zsucc]
        refine tX12_isIn (ifz (fun q => ?_) (fun q => ?_))
        · rw [hbit] at q
          refine ih (i + 1) _ (by omega) (hmul _ ?_)
          rw [hfv, zsub (by rw [zl_12]; omega) (by rw [zl_12]; omega), zl_12, ht0]
          unfold wv
          rw [if_neg q]
        · rw [hbit] at q
          refine ih (i + 1) _ (by omega) (hmul _ ?_)
          rw [hfv, ht0]
          unfold wv
          rw [if_pos q]
      unfold wX12_waysOf_6
      rw [if_neg (by rw [zle, zl_8, zo (by omega)]; omega)]
      have w8 : (8 * x).toInt = 8 * way := by rw [zmul (by rw [hx, zl_8]; omega) (by rw [hx, zl_8]; omega), hx, zl_8]
      have w48 : (48 + 8 * x).toInt = 48 + 8 * way := by rw [zadd (by rw [w8, zl_48]; omega) (by rw [w8, zl_48]; omega), w8, zl_48]
      have wj : (48 + 8 * x + Int32.ofNat i).toInt = 48 + 8 * way + i := by rw [zadd (by rw [w48, zo (by omega)]; omega) (by rw [w48, zo (by omega)]; omega), w48, zo (by omega)]
      have wn : (48 + 8 * x + Int32.ofNat i).toNatClampNeg = 24 * 2 + (8 * way + i) := by rw [znat, wj]; omega
      refine ife (fun q => ?_) (fun q => ⟨by rw [zin, wj]; omega, ?_⟩)
      · rw [zeq, zo (by omega)] at q
        exact tail 0 (by rw [if_pos q]; rfl)
      · rw [zeq, zo (by omega)] at q
        rw [wn]
        exact tail _ (by rw [if_neg q]; exact (hF.sq (s := 8 * way + i) (by omega) (w := 2) (by decide)).2.1)
  exact ⟨_, key 8 0 1 (by omega) rfl⟩
theorem tX12_likelyWays {x z : Int32} {way : Nat} {ls : List Nat} {I0 : jS} (hF : Fr G l F g p I) (hx : x.toInt = way) (hw : way < 3) (h85 : ∀ T, T < 256 → I 85 T = b01 (gO F p I0 way ls T = true))
    (h : ∀ r : Int64, r.toInt = LK F p I0 way ls z.toInt → QJ r I L) : cJ G l mX12_likelyWays (d + 3) [.ref 71, .int x, .int z] I L QJ := by
  refine wX12_likelyWays_ok ?_
  unfold wX12_likelyWays
  rw [← LK_sum] at h
  generalize hf : (fun T => if gO F p I0 way ls T = true then prodP (fun k => wv p way z.toInt k (T.testBit k)) 8 else 0) = f at h
  have hp : ∀ k, k < 8 → 0 ≤ p 2 (8 * way + k) ∧ p 2 (8 * way + k) ≤ 12 := fun k hk => pok_2 (hF.sq (s := 8 * way + k) (by omega) (w := 2) (by decide)).2.2
  have hfb : ∀ T, 0 ≤ f T ∧ f T ≤ 429981696 := fun T => by
    rw [← hf]
    simp only
    by_cases q : gO F p I0 way ls T = true
    · rw [if_pos q]
      have := prodP_b (f := fun k => wv p way z.toInt k (T.testBit k)) 8 (fun k hk => by
        have h := hp k hk
        unfold wv
        by_cases q : (k : Int) = z.toInt
        · rw [if_pos q]
          by_cases q2 : T.testBit k = true
          · rw [if_pos q2]; omega
          · rw [if_neg q2]; omega
        · rw [if_neg q]
          by_cases q2 : T.testBit k = true
          · rw [if_pos q2]; omega
          · rw [if_neg q2]; omega)
      exact ⟨this.1, Int.le_trans this.2 (pow12 (by omega))⟩
    · rw [if_neg q]; omega
  have hsb := nsum_bb hfb
  have key : ∀ (m i : Nat) (y : Int64), i + m = 256 → y.toInt = nsum f i → wX12_likelyWays_5 G l (d + 2) (fun v I' L' => ∃ r, v = some (.long r) ∧ QJ r I' L') (m + 1) x z y (Int32.ofNat i) I L := by
    intro m
    induction m with
    | zero =>
      intro i y hi hy
      have : i = 256 := by omega
      subst this
      unfold wX12_likelyWays_5
      rw [if_pos (by decide)]
      exact rl (h y hy)
    | succ m ih =>
      intro i y hi hy
      have hs := hsb i
      have hfi := hfb i
      have hn : nsum f (i + 1) = nsum f i + f i := rfl
      have hfv : f i = if gO F p I0 way ls i = true then prodP (fun k => wv p way z.toInt k (i.testBit k)) 8 else 0 := by rw [← hf]
      unfold wX12_likelyWays_5
      rw [if_neg (by rw [zle, zl_256, zo (by omega)]; omega)]
      refine ⟨by rw [zin, zo (by omega)]; omega, ?_⟩
      rw [zon (by omega), h85 i (by omega)]
      refine ifz (fun q => ?_) (fun q => ?_)
      · rw [if_neg q] at hfv
        rw [zsucc]
        refine ih (i + 1) _ (by omega) ?_
        rw [wadd (by rw [zm_0]; omega) (by rw [zm_0]; omega), zm_0, hn, hfv, hy]
      · rw [if_pos q] at hfv
        refine tX12_waysOf hF hx hw (show i < 256 by omega) rfl (fun r hr => ?_)
        rw [zsucc]
        refine ih (i + 1) _ (by omega) ?_
        rw [← hfv] at hr
        rw [wadd (by rw [hr, hy]; omega) (by rw [hr, hy]; omega), hr, hy, hn]
  exact ⟨_, key 256 0 0 (by omega) rfl⟩
end C6

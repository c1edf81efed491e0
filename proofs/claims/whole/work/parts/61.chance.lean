/-! how likely all get over: numbers -/
/-- one square by itself: whether it holds them all -/
def sq1 (F : Option lF) (p : Nat → Nat → Int) (s : Nat) (stv : Int) : List Nat → Int → Int → Bool
  | [], _, _ => true
  | n :: t, w, mn => if (zready p n 0).2.1 ≤ max 0 (stv - w - max 0 (mn - p 8 0)) then sq1 F p s stv t (max 0 (min 99 (w + zW F (zready p n 0) (max 0 (stv - w - max 0 (mn - p 8 0))) s mn) - zt (zready p n 0) * p 1 s)) (mn + zt (zready p n 0)) else false
section CH
variable {F : Option lF} {c : zC} {p : Nat → Nat → Int} {st : Nat → Int} {mn sun : Int} {way n : Nat}
theorem zgo_at {sq : Nat → Nat} (hinj : ∀ i j, i < 8 → j < 8 → sq i = sq j → i = j) : ∀ m k wk, k + m ≤ 8 → (∀ j, k ≤ j → j < k + m → c.2.1 ≤ zB st wk mn sun (sq j)) → (∀ j, k ≤ j → j < k + m → (zgo F c st mn sun sq m k wk).2 (sq j) = min 99 (wk (sq j) + zW F c (zB st wk mn sun (sq j)) (sq j) mn)) ∧ (∀ j, j < k → (zgo F c st mn sun sq m k wk).2 (sq j) = wk (sq j)) := by
  intro m
  induction m with
  | zero => intro k wk _ _; exact ⟨fun j h1 h2 => by omega, fun j _ => rfl⟩
  | succ m ih =>
    intro k wk hk h
    have hc := h k (by omega) (by omega)
    have e1 : ∀ j, j ≠ k → j < 8 → zS F c st mn sun (sq k) wk (sq j) = wk (sq j) := fun j hj hj8 => by
      have hne : sq j ≠ sq k := fun q => hj (hinj j k hj8 (by omega) q)
      unfold zS zup
      rw [if_neg hne]
    have e2 : ∀ j, j ≠ k → j < 8 → zB st (zS F c st mn sun (sq k) wk) mn sun (sq j) = zB st wk mn sun (sq j) := fun j hj hj8 => by
      unfold zB
      rw [e1 j hj hj8]
    obtain ⟨a, b⟩ := ih (k + 1) (zS F c st mn sun (sq k) wk) (by omega) (fun j h1 h2 => by rw [e2 j (by omega) (by omega)]; exact h j (by omega) (by omega))
    unfold zgo
    rw [if_pos hc]
    refine ⟨fun j h1 h2 => ?_, fun j hj => ?_⟩
    · by_cases q : j = k
      · rw [b j (by omega), q]
        unfold zS zup
        rw [if_pos rfl, if_pos hc]
      · rw [a j (by omega) (by omega), e1 j q (by omega), e2 j q (by omega)]
    · rw [b j (by omega), e1 j (by omega) (by omega)]
theorem zcross_at {wk : Nat → Int} (h : (zcross F p st way n 0 false wk mn).1 = -1) {j : Nat} (hj : j < 8) : (zcross F p st way n 0 false wk mn).2.1 (8 * way + j) = max 0 (min 99 (wk (8 * way + j) + zW F (zready p n 0) (zB st wk mn (p 8 0) (8 * way + j)) (8 * way + j) mn) - zt (zready p n 0) * p 1 (8 * way + j)) := by
  have ho := zcross_over.mp h
  have := (zgo_at (F := F) (c := zready p n 0) (st := st) (mn := mn) (sun := p 8 0) (sq := zsq way false) (fun i j hi hj q => by rw [zsq_f, zsq_f] at q; omega) 8 0 wk (by omega) (fun j _ h2 => by rw [zsq_f]; exact ho j (by omega))).1 j (by omega) (by omega)
  rw [zsq_f] at this
  have e : (zcross F p st way n 0 false wk mn).2.1 (8 * way + j) = max 0 ((zgo F (zready p n 0) st mn (p 8 0) (zsq way false) 8 0 wk).2 (8 * way + j) - zt (zready p n 0) * p 1 (8 * way + j)) := rfl
  rw [e, this]
/-- all get over just where each square by itself holds them all -/
theorem zL_sq1 : ∀ (ls : List Nat) (S : zT), (zL F p st way ls S).1 = S.1 + ls.length ↔ ∀ j, j < 8 → sq1 F p (8 * way + j) (st (8 * way + j)) ls (S.2.1 (8 * way + j)) S.2.2 = true := by
  intro ls
  induction ls with
  | nil => intro S; unfold zL sq1; simp
  | cons n t ih =>
    intro S
    have hb := zL_nn (F := F) (p := p) (st := st) (way := way) t (S.1 + (if (zcross F p st way n 0 false S.2.1 S.2.2).1 = -1 then 1 else 0), (zcross F p st way n 0 false S.2.1 S.2.2).2.1, (zcross F p st way n 0 false S.2.1 S.2.2).2.2)
    have hi := ih (S.1 + (if (zcross F p st way n 0 false S.2.1 S.2.2).1 = -1 then 1 else 0), (zcross F p st way n 0 false S.2.1 S.2.2).2.1, (zcross F p st way n 0 false S.2.1 S.2.2).2.2)
    unfold zL
    simp only [List.length_cons] at hb hi ⊢
    generalize (zL F p st way t (S.1 + (if (zcross F p st way n 0 false S.2.1 S.2.2).1 = -1 then 1 else 0), (zcross F p st way n 0 false S.2.1 S.2.2).2.1, (zcross F p st way n 0 false S.2.1 S.2.2).2.2)).1 = Z at *
    by_cases q : (zcross F p st way n 0 false S.2.1 S.2.2).1 = -1
    · rw [if_pos q] at hb hi
      have ho := zcross_over.mp q
      have e1 : Z = S.1 + ((t.length + 1 : Nat) : Int) ↔ Z = S.1 + 1 + (t.length : Int) := by omega
      rw [e1, hi]
      have em : (zcross F p st way n 0 false S.2.1 S.2.2).2.2 = S.2.2 + zt (zready p n 0) := rfl
      constructor
      · intro h j hj
        have := h j hj
        rw [zcross_at q hj, em] at this
        have hoj : (zready p n 0).2.1 ≤ max 0 (st (8 * way + j) - S.2.1 (8 * way + j) - max 0 (S.2.2 - p 8 0)) := ho j hj
        unfold sq1
        rw [if_pos hoj]
        exact this
      · intro h j hj
        have := h j hj
        have hoj : (zready p n 0).2.1 ≤ max 0 (st (8 * way + j) - S.2.1 (8 * way + j) - max 0 (S.2.2 - p 8 0)) := ho j hj
        unfold sq1 at this
        rw [if_pos hoj] at this
        rw [zcross_at q hj, em]
        exact this
    · rw [if_neg q] at hb hi
      constructor
      · intro h; omega
      · intro h
        exfalso
        refine q (zcross_over.mpr (fun j hj => ?_))
        have := h j hj
        unfold sq1 at this
        by_cases z : (zready p n 0).2.1 ≤ max 0 (st (8 * way + j) - S.2.1 (8 * way + j) - max 0 (S.2.2 - p 8 0))
        · exact z
        · rw [if_neg z] at this; exact absurd this (by decide)
end CH
/-! sums of products -/
def prodP (f : Nat → Int) : Nat → Int
  | 0 => 1
  | k + 1 => prodP f k * f k
theorem prodP_cg {f f' : Nat → Int} : ∀ m, (∀ k, k < m → f k = f' k) → prodP f m = prodP f' m := by
  intro m
  induction m with
  | zero => intro _; rfl
  | succ m ih => intro h; unfold prodP; rw [ih (fun k hk => h k (by omega)), h m (by omega)]
theorem prodP_b {f : Nat → Int} : ∀ m, (∀ k, k < m → 0 ≤ f k ∧ f k ≤ 12) → 0 ≤ prodP f m ∧ prodP f m ≤ 12 ^ m := by
  intro m
  induction m with
  | zero => intro _; unfold prodP; decide
  | succ m ih =>
    intro h
    have hm := h m (by omega)
    have hi := ih (fun k hk => h k (by omega))
    unfold prodP
    refine ⟨Int.mul_nonneg hi.1 hm.1, ?_⟩
    rw [Int.pow_succ]
    exact Int.mul_le_mul hi.2 hm.2 hm.1 (Int.le_trans hi.1 hi.2)
theorem pow12 {i : Nat} (h : i ≤ 8) : (12 : Int) ^ i ≤ 429981696 := by
  have : i = 0 ∨ i = 1 ∨ i = 2 ∨ i = 3 ∨ i = 4 ∨ i = 5 ∨ i = 6 ∨ i = 7 ∨ i = 8 := by omega
  rcases this with rfl | rfl | rfl | rfl | rfl | rfl | rfl | rfl | rfl <;> decide
theorem prodP_if1 {B : Nat → Bool} {w : Nat → Int} : ∀ m, (∀ k, k < m → B k = true) → prodP (fun k => if B k = true then w k else 0) m = prodP w m := by
  intro m h
  exact prodP_cg m (fun k hk => by rw [if_pos (h k hk)])
theorem prodP_if0 {B : Nat → Bool} {w : Nat → Int} : ∀ m, (¬ ∀ k, k < m → B k = true) → prodP (fun k => if B k = true then w k else 0) m = 0 := by
  intro m
  induction m with
  | zero => intro h; exact absurd (fun k hk => by omega) h
  | succ m ih =>
    intro h
    unfold prodP
    by_cases hm : B m = true
    · rw [ih (fun z => h (fun k hk => by
        by_cases e : k = m
        · rw [e]; exact hm
        · exact z k (by omega))), Int.zero_mul]
    · rw [if_neg hm, Int.mul_zero]
theorem nsum_cg {f f' : Nat → Int} : ∀ m, (∀ k, k < m → f k = f' k) → nsum f m = nsum f' m := by
  intro m
  induction m with
  | zero => intro _; rfl
  | succ m ih => intro h; unfold nsum; rw [ih (fun k hk => h k (by omega)), h m (by omega)]
theorem nsum_mul {f : Nat → Int} {c : Int} : ∀ m, nsum (fun k => f k * c) m = nsum f m * c := by
  intro m
  induction m with
  | zero => unfold nsum; rw [Int.zero_mul]
  | succ m ih => unfold nsum; rw [ih, Int.add_mul]
theorem nsum_add {f : Nat → Int} {a : Nat} : ∀ b, nsum f (a + b) = nsum f a + nsum (fun k => f (a + k)) b := by
  intro b
  induction b with
  | zero => rw [Nat.add_zero]; show nsum f a = nsum f a + 0; omega
  | succ b ih =>
    have e : a + (b + 1) = (a + b) + 1 := by omega
    rw [e]
    show nsum f (a + b) + f (a + b) = nsum f a + (nsum (fun k => f (a + k)) b + f (a + b))
    rw [ih]
    omega
theorem nsum_bb {f : Nat → Int} {M : Int} (h : ∀ i, 0 ≤ f i ∧ f i ≤ M) : ∀ i : Nat, 0 ≤ nsum f i ∧ nsum f i ≤ M * i := by
  intro i
  induction i with
  | zero => unfold nsum; simp
  | succ i ih =>
    unfold nsum
    have := h i
    have e : M * ((i + 1 : Nat) : Int) = M * i + M := by rw [Int.natCast_add, Int.mul_add]; simp
    rw [e]
    omega
theorem dist {u : Nat → Bool → Int} : ∀ m, nsum (fun T => prodP (fun k => u k (T.testBit k)) m) (2 ^ m) = prodP (fun k => u k false + u k true) m := by
  intro m
  induction m with
  | zero => rfl
  | succ m ih =>
    have e2 : 2 ^ (m + 1) = 2 ^ m + 2 ^ m := by rw [Nat.pow_succ]; omega
    rw [e2, nsum_add]
    have h1 : nsum (fun T => prodP (fun k => u k (T.testBit k)) (m + 1)) (2 ^ m) = nsum (fun T => prodP (fun k => u k (T.testBit k)) m * u m false) (2 ^ m) := nsum_cg _ (fun T hT => by
      have hb : T.testBit m = false := Nat.testBit_lt_two_pow hT
      show prodP (fun k => u k (T.testBit k)) m * u m (T.testBit m) = _
      rw [hb])
    have h2 : nsum (fun T => prodP (fun k => u k ((2 ^ m + T).testBit k)) (m + 1)) (2 ^ m) = nsum (fun T => prodP (fun k => u k (T.testBit k)) m * u m true) (2 ^ m) := nsum_cg _ (fun T hT => by
      have hb : (2 ^ m + T).testBit m = true := by rw [Nat.testBit_two_pow_add_eq, Nat.testBit_lt_two_pow hT]; rfl
      have hc : prodP (fun k => u k ((2 ^ m + T).testBit k)) m = prodP (fun k => u k (T.testBit k)) m := prodP_cg m (fun k hk => by
        rw [Nat.testBit_two_pow_add_gt hk])
      show prodP (fun k => u k ((2 ^ m + T).testBit k)) m * u m ((2 ^ m + T).testBit m) = _
      rw [hb, hc])
    rw [h1, h2, nsum_mul, nsum_mul, ih]
    show _ = prodP (fun k => u k false + u k true) m * (u m false + u m true)
    rw [Int.mul_add]
/-! longs -/
theorem wbmod {z : Int} (h1 : -9223372036854775808 ≤ z) (h2 : z ≤ 9223372036854775807) : z.bmod (2 ^ 64) = z := by
  rw [Int.bmod_def]
  omega
theorem wadd {a b : Int64} (h1 : -9223372036854775808 ≤ a.toInt + b.toInt) (h2 : a.toInt + b.toInt ≤ 9223372036854775807) : (a + b).toInt = a.toInt + b.toInt := by
  rw [Int64.toInt_add, wbmod h1 h2]
theorem wsub {a b : Int64} (h1 : -9223372036854775808 ≤ a.toInt - b.toInt) (h2 : a.toInt - b.toInt ≤ 9223372036854775807) : (a - b).toInt = a.toInt - b.toInt := by
  rw [Int64.toInt_sub, wbmod h1 h2]
theorem wmul {a b : Int64} (h1 : -9223372036854775808 ≤ a.toInt * b.toInt) (h2 : a.toInt * b.toInt ≤ 9223372036854775807) : (a * b).toInt = a.toInt * b.toInt := by
  rw [Int64.toInt_mul, wbmod h1 h2]
theorem wdiv {a b : Int64} {x y : Nat} (ha : a.toInt = x) (hb : b.toInt = y) (hx : x ≤ 1000000000000) : (a / b).toInt = ((x / y : Nat) : Int) := by
  have h3 : x / y ≤ x := Nat.div_le_self _ _
  rw [Int64.toInt_div, ha, hb, Int.tdiv_eq_ediv_of_nonneg (by omega), ← Int.natCast_ediv]
  generalize x / y = q at *
  exact wbmod (by omega) (by omega)
theorem wmod {a b : Int64} {x y : Nat} (ha : a.toInt = x) (hb : b.toInt = y) (hx : x ≤ 1000000000000) : (a - a / b * b).toInt = ((x % y : Nat) : Int) := by
  have e1 := wdiv ha hb hx
  have h3 : x / y * y ≤ x := Nat.div_mul_le_self _ _
  have h4 := Nat.div_add_mod x y
  rw [Nat.mul_comm] at h4
  have e0 : (a / b).toInt * b.toInt = ((x / y * y : Nat) : Int) := by rw [e1, hb, Int.natCast_mul]
  generalize x / y * y = w at *
  have e2 : (a / b * b).toInt = (w : Int) := by rw [wmul (by rw [e0]; omega) (by rw [e0]; omega), e0]
  rw [wsub (by rw [e2, ha]; omega) (by rw [e2, ha]; omega), e2, ha]
  generalize x % y = r at *
  omega
theorem eu_step {x y n : Nat} (h : x * y < 2 ^ (n + 1)) (hxy : y ≤ x) (hy : 0 < y) : y * (x % y) < 2 ^ n := by
  have h1 : x % y < y := Nat.mod_lt _ hy
  have h2 := Nat.div_add_mod x y
  have h3 : 1 ≤ x / y := (Nat.le_div_iff_mul_le hy).mpr (by omega)
  have h4 : y ≤ y * (x / y) := Nat.le_mul_of_pos_right _ (by omega)
  have h5 : 2 * (x % y) ≤ x := by omega
  have h6 : 2 * (x % y) * y ≤ x * y := Nat.mul_le_mul_right _ h5
  have h7 : 2 * (x % y) * y = 2 * (y * (x % y)) := by rw [Nat.mul_assoc, Nat.mul_comm (x % y) y]
  rw [Nat.pow_succ] at h
  omega
theorem eu_zero {x y : Nat} (h : x * y < 2 ^ 0) (hxy : y ≤ x) : y = 0 := by
  by_cases q : y = 0
  · exact q
  · have : 0 < x * y := Nat.mul_pos (by omega) (by omega)
    omega
theorem eu_gcd (x y : Nat) : Nat.gcd x y = Nat.gcd y (x % y) := by
  rw [Nat.gcd_comm x y, Nat.gcd_rec y x, Nat.gcd_comm]
theorem rdN_min {f : Nat → Int} {g : Int} : ∀ a m i, a ≤ m → rdN f g a i = min (i + a) (rdN f g m i) := by
  intro a
  induction a with
  | zero => intro m i _; have := (rdN_le (f := f) (g := g) m i).1; show i = min (i + 0) (rdN f g m i); omega
  | succ a ih =>
    intro m i hm
    have hb := rdN_le (f := f) (g := g) m i
    obtain ⟨m', rfl⟩ : ∃ m', m = m' + 1 := ⟨m - 1, by omega⟩
    unfold rdN
    by_cases h : 0 ≤ f i ∧ f i < g
    · rw [if_pos h, if_pos h, ih m' (i + 1) (by omega)]
      congr 1
      omega
    · rw [if_neg h, if_neg h]; omega

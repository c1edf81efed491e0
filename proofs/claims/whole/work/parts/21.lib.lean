/-! numbers -/
theorem zlt {a b : Int32} : a < b ↔ a.toInt < b.toInt := Int32.lt_iff_toInt_lt
theorem zle {a b : Int32} : a ≤ b ↔ a.toInt ≤ b.toInt := Int32.le_iff_toInt_le
theorem zeq {a b : Int32} : a = b ↔ a.toInt = b.toInt := Int32.toInt_inj.symm
theorem zrange (a : Int32) : -2147483648 ≤ a.toInt ∧ a.toInt ≤ 2147483647 := by
  have h1 := Int32.minValue_le_toInt a
  have h2 := Int32.toInt_le a
  have e1 : Int32.minValue.toInt = -2147483648 := by decide
  have e2 : Int32.maxValue.toInt = 2147483647 := by decide
  omega
theorem zbmod {z : Int} (h1 : -2147483648 ≤ z) (h2 : z ≤ 2147483647) : z.bmod (2 ^ 32) = z := by
  rw [Int.bmod_def]
  omega
theorem zadd {a b : Int32} (h1 : -2147483648 ≤ a.toInt + b.toInt) (h2 : a.toInt + b.toInt ≤ 2147483647) : (a + b).toInt = a.toInt + b.toInt := by
  rw [Int32.toInt_add, zbmod h1 h2]
theorem zsub {a b : Int32} (h1 : -2147483648 ≤ a.toInt - b.toInt) (h2 : a.toInt - b.toInt ≤ 2147483647) : (a - b).toInt = a.toInt - b.toInt := by
  rw [Int32.toInt_sub, zbmod h1 h2]
theorem zmul {a b : Int32} (h1 : -2147483648 ≤ a.toInt * b.toInt) (h2 : a.toInt * b.toInt ≤ 2147483647) : (a * b).toInt = a.toInt * b.toInt := by
  rw [Int32.toInt_mul, zbmod h1 h2]
theorem zneg {a : Int32} (h1 : -2147483647 ≤ a.toInt) : (-a).toInt = -a.toInt := by
  have := zrange a
  rw [Int32.toInt_neg, zbmod (by omega) (by omega)]
theorem zofNat {n : Nat} (h : n ≤ 2147483647) : (Int32.ofNat n).toInt = (n : Int) := Int32.toInt_ofNat_of_lt (by omega)
theorem zof {a : Int32} {n : Nat} (h : a.toInt = (n : Int)) : a = Int32.ofNat n := by
  have := zrange a
  rw [zeq, h, zofNat (by omega)]
theorem znat (a : Int32) : a.toNatClampNeg = a.toInt.toNat := rfl
theorem zin {i : Int32} {n : Nat} : vp_in i n ↔ 0 ≤ i.toInt ∧ i.toInt < (n : Int) := by
  unfold vp_in
  rw [zlt, znat]
  have e : (0 : Int32).toInt = 0 := by decide
  omega
theorem z0 : (0 : Int32).toInt = 0 := by decide
theorem z1 : (1 : Int32).toInt = 1 := by decide
theorem z64 {a : Int32} : (a.toInt64).toInt = a.toInt := Int32.toInt_toInt64 a
/-- a truth as an int -/
def b01 (p : Prop) [Decidable p] : Int32 := if p then 1 else 0
theorem b01_0 {p : Prop} [Decidable p] : b01 p = 0 ↔ ¬ p := by
  unfold b01
  by_cases h : p
  · simp [h]
  · simp [h]
theorem b01_1 {p : Prop} [Decidable p] : b01 p = 1 ↔ p := by
  unfold b01
  by_cases h : p
  · simp [h]
  · simp [h]
theorem b01_or {p : Prop} [Decidable p] : b01 p = 0 ∨ b01 p = 1 := by
  unfold b01
  by_cases h : p
  · exact Or.inr (if_pos h)
  · exact Or.inl (if_neg h)
theorem b01_pos {p : Prop} [Decidable p] (h : p) : b01 p = 1 := if_pos h
theorem b01_neg {p : Prop} [Decidable p] (h : ¬ p) : b01 p = 0 := if_neg h
theorem b01_iff {p q : Prop} [Decidable p] [Decidable q] (h : p ↔ q) : b01 p = b01 q := by
  unfold b01
  by_cases hq : q
  · rw [if_pos hq, if_pos (h.mpr hq)]
  · rw [if_neg hq, if_neg (fun x => hq (h.mp x))]
theorem lcmp_lt {x y : Int64} : lg_cmp x y < 0 ↔ x < y := by
  unfold lg_cmp
  by_cases h1 : y < x
  · have : ¬ x < y := by rw [Int64.lt_iff_toInt_lt] at *; omega
    simp [h1, this]
  · by_cases h2 : x = y
    · subst h2; simp
    · have : x < y := by
        rw [Int64.lt_iff_toInt_lt] at *
        have h3 : ¬ x.toInt = y.toInt := fun e => h2 (Int64.toInt_inj.mp e)
        omega
      simp [h1, h2, this]
theorem lcmp_gt {x y : Int64} : 0 < lg_cmp x y ↔ y < x := by
  unfold lg_cmp
  by_cases h1 : y < x
  · simp [h1]
  · by_cases h2 : x = y
    · subst h2; simp
    · simp [h1, h2]
theorem lcmp_eq {x y : Int64} : lg_cmp x y = 0 ↔ x = y := by
  unfold lg_cmp
  by_cases h1 : y < x
  · have : x ≠ y := fun e => by subst e; rw [Int64.lt_iff_toInt_lt] at h1; omega
    simp [h1, this]
  · by_cases h2 : x = y
    · subst h2; simp
    · simp [h1, h2]
/-! the ways out of a formula -/
theorem ri {Q : Int32 → jS → jL → Prop} {v : Int32} {I : jS} {L : jL} (h : Q v I L) : ∃ r, (some (Value.int v) : Option Value) = some (.int r) ∧ Q r I L := ⟨v, rfl, h⟩
theorem rl {Q : Int64 → jS → jL → Prop} {v : Int64} {I : jS} {L : jL} (h : Q v I L) : ∃ r, (some (Value.long v) : Option Value) = some (.long r) ∧ Q r I L := ⟨v, rfl, h⟩
theorem rv {Q : jS → jL → Prop} {I : jS} {L : jL} (h : Q I L) : (none : Option Value) = none ∧ Q I L := ⟨rfl, h⟩
theorem ife {c : Prop} [Decidable c] {A B : Prop} (h1 : c → A) (h2 : ¬ c → B) : if c then A else B := by
  by_cases h : c
  · rw [if_pos h]; exact h1 h
  · rw [if_neg h]; exact h2 h
/-- a branch on a truth that came back as an int -/
theorem ifz {p : Prop} [Decidable p] {A B : Prop} (h1 : ¬ p → A) (h2 : p → B) : if b01 p = 0 then A else B := ife (fun h => h1 (b01_0.mp h)) (fun h => h2 (by by_cases hp : p; exact hp; exact absurd (b01_neg hp) h))

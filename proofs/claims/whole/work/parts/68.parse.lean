/-! the law's text, read: pure -/
abbrev lE : Type := Nat → Int32
abbrev zP : Type := Bool × Nat × List Int32 × (lE → Int32)
def pfail (i : Nat) : zP := (false, i, [], fun _ => 0)
def lvOf (x0 : Int32) : Int32 := if x0 = (37 : Int32) then 4 else if x0 = (38 : Int32) then 1 else if x0 = (42 : Int32) then 4 else if x0 = (43 : Int32) then 3 else if x0 = (45 : Int32) then 3 else if x0 = (47 : Int32) then 4 else if x0 = (60 : Int32) then 2 else if x0 = (61 : Int32) then 2 else if x0 = (62 : Int32) then 2 else if x0 = (124 : Int32) then 0 else -1
def nmOf (x0 : Int32) : Int32 := if x0 = (98 : Int32) then 3 else if x0 = (109 : Int32) then 5 else if x0 = (112 : Int32) then 2 else if x0 = (115 : Int32) then 4 else if x0 = (116 : Int32) then 1 else if x0 = (119 : Int32) then 0 else -1
def digB (c : Int32) : Bool := decide (48 ≤ c.toInt) && decide (c.toInt ≤ 57)
theorem digB_t {c : Int32} : digB c = true ↔ 48 ≤ c.toInt ∧ c.toInt ≤ 57 := by
  unfold digB
  rw [Bool.and_eq_true, decide_eq_true_iff, decide_eq_true_iff]
def jnd (s a b : Int32) : Int32 := if s = (37 : Int32) then (if b = 0 then 0 else a - a / b * b) else if s = (38 : Int32) then (if a = 0 then 0 else if b = 0 then 0 else 1) else if s = (42 : Int32) then a * b else if s = (43 : Int32) then a + b else if s = (45 : Int32) then a - b else if s = (47 : Int32) then (if b = 0 then 0 else a / b) else if s = (60 : Int32) then (if b ≤ a then 0 else 1) else if s = (61 : Int32) then (if a = b then 1 else 0) else if s = (62 : Int32) then (if a ≤ b then 0 else 1) else if s = (124 : Int32) then (if a = 0 then (if b = 0 then 0 else 1) else 1) else 0
/-- the byte that comes -/
def chr (tx : Nat → Int32) (n i : Nat) : Int32 := if i < n then tx i else -1
def pNum (tx : Nat → Int32) (n : Nat) : Nat → Nat → Int32 → Nat × Int32
  | 0, i, v => (i, v)
  | m + 1, i, v => if digB (chr tx n i) = true then pNum tx n m (i + 1) (v * 10 + chr tx n i - 48) else (i, v)
def pJoin (tx : Nat → Int32) (n : Nat) (sub : Nat → zP) (r : zP) : zP := ((sub (r.2.1 + 1)).1, (sub (r.2.1 + 1)).2.1, r.2.2.1 ++ (sub (r.2.1 + 1)).2.2.1 ++ [11000 + chr tx n r.2.1], fun E => jnd (chr tx n r.2.1) (r.2.2.2 E) ((sub (r.2.1 + 1)).2.2.2 E))
def pLoop (tx : Nat → Int32) (n : Nat) (sub : Nat → zP) (lv : Nat) : Nat → zP → zP
  | 0, r => r
  | f + 1, r => if r.1 = true ∧ lvOf (chr tx n r.2.1) = Int32.ofNat lv then (if lv = 2 then pJoin tx n sub r else pLoop tx n sub lv f (pJoin tx n sub r)) else r
def pLev (tx : Nat → Int32) (n : Nat) (sub : Nat → zP) (lv : Nat) (i : Nat) : zP := pLoop tx n sub lv 120 (sub i)
def pE (tx : Nat → Int32) (n : Nat) (sub : Nat → zP) : Nat → zP := pLev tx n (pLev tx n (pLev tx n (pLev tx n (pLev tx n sub 4) 3) 2) 1) 0
def pOp (tx : Nat → Int32) (n : Nat) (subL subO : Nat → zP) (deep : Bool) (i : Nat) : zP :=
  if digB (chr tx n i) = true then (true, (pNum tx n 4 i 0).1, [(pNum tx n 4 i 0).2], fun _ => (pNum tx n 4 i 0).2)
  else if 0 ≤ (nmOf (chr tx n i)).toInt then (true, i + 1, [10000 + nmOf (chr tx n i)], fun E => E (nmOf (chr tx n i)).toInt.toNat)
  else if deep = false then pfail i
  else if chr tx n i = 40 then (if (subL (i + 1)).1 = true then (if chr tx n (subL (i + 1)).2.1 = 41 then (true, (subL (i + 1)).2.1 + 1, (subL (i + 1)).2.2.1, (subL (i + 1)).2.2.2) else pfail (subL (i + 1)).2.1) else pfail (subL (i + 1)).2.1)
  else if chr tx n i = 33 ∨ chr tx n i = 45 then (if (subO (i + 1)).1 = true then (true, (subO (i + 1)).2.1, (subO (i + 1)).2.2.1 ++ [if chr tx n i = 45 then 11126 else 11033], fun E => if chr tx n i = 45 then -((subO (i + 1)).2.2.2 E) else if (subO (i + 1)).2.2.2 E = 0 then 1 else 0) else pfail (subO (i + 1)).2.1)
  else pfail i
def pO (tx : Nat → Int32) (n : Nat) : Nat → Nat → zP
  | 0 => pOp tx n pfail pfail false
  | k + 1 => pOp tx n (pE tx n (pO tx n k)) (pO tx n k) true
abbrev zLn : Type := Bool × Nat × List Int32 × (lE → Int32) × (lE → Int32)
/-- a line: its codes, its test, what it gives -/
def pLn (tx : Nat → Int32) (n : Nat) (sub : Nat → zP) (s i : Nat) : zLn :=
  if (sub i).1 = true then (if chr tx n (sub i).2.1 = 63 then ((sub ((sub i).2.1 + 1)).1, (sub ((sub i).2.1 + 1)).2.1, (sub i).2.2.1 ++ ((13000 + Int32.ofNat (s + ((sub i).2.2.1.length + ((sub ((sub i).2.1 + 1)).2.2.1.length + 2)))) :: ((sub ((sub i).2.1 + 1)).2.2.1 ++ [12000])), (sub i).2.2.2, (sub ((sub i).2.1 + 1)).2.2.2) else (true, (sub i).2.1, (sub i).2.2.1 ++ [12000], fun _ => 1, (sub i).2.2.2)) else (false, (sub i).2.1, [], fun _ => 0, fun _ => 0)
def pT (tx : Nat → Int32) (n : Nat) (sub : Nat → zP) : Nat → Nat → List Int32 → zP
  | 0, i, _ => pfail i
  | f + 1, i, cs => if (pLn tx n sub cs.length i).1 = true then (if chr tx n (pLn tx n sub cs.length i).2.1 = 59 then ((pT tx n sub f ((pLn tx n sub cs.length i).2.1 + 1) (cs ++ (pLn tx n sub cs.length i).2.2.1)).1, (pT tx n sub f ((pLn tx n sub cs.length i).2.1 + 1) (cs ++ (pLn tx n sub cs.length i).2.2.1)).2.1, (pT tx n sub f ((pLn tx n sub cs.length i).2.1 + 1) (cs ++ (pLn tx n sub cs.length i).2.2.1)).2.2.1, fun E => if (pLn tx n sub cs.length i).2.2.2.1 E = 0 then (pT tx n sub f ((pLn tx n sub cs.length i).2.1 + 1) (cs ++ (pLn tx n sub cs.length i).2.2.1)).2.2.2 E else (pLn tx n sub cs.length i).2.2.2.2 E) else (if (pLn tx n sub cs.length i).2.1 < n then pfail (pLn tx n sub cs.length i).2.1 else (true, (pLn tx n sub cs.length i).2.1, cs ++ (pLn tx n sub cs.length i).2.2.1, fun E => if (pLn tx n sub cs.length i).2.2.2.1 E = 0 then 0 else (pLn tx n sub cs.length i).2.2.2.2 E))) else pfail (pLn tx n sub cs.length i).2.1
section PP
variable {tx : Nat → Int32} {n : Nat} {sub subL subO : Nat → zP}
theorem chr_ge {i : Nat} (h : ¬ i < n) : chr tx n i = -1 := if_neg h
theorem chr_lt {i : Nat} (h : i < n) : chr tx n i = tx i := if_pos h
theorem chr_in {i : Nat} {c : Int32} (h : chr tx n i = c) (hc : ¬ c = -1) : i < n := by
  by_cases q : i < n
  · exact q
  · rw [chr_ge q] at h; exact absurd h.symm hc
theorem lv_in {i lv : Nat} (hl : lv < 5) (h : lvOf (chr tx n i) = Int32.ofNat lv) : i < n := by
  by_cases q : i < n
  · exact q
  · rw [chr_ge q] at h
    have : lvOf (-1) = -1 := by decide
    rw [this, zeq, zl_m1, zo (by omega)] at h
    omega
theorem nm_in {i : Nat} (h : 0 ≤ (nmOf (chr tx n i)).toInt) : i < n := by
  by_cases q : i < n
  · exact q
  · rw [chr_ge q] at h
    exact absurd h (by decide)
theorem dig_in {i : Nat} (h : digB (chr tx n i) = true) : i < n := by
  by_cases q : i < n
  · exact q
  · rw [chr_ge q] at h
    exact absurd h (by decide)
theorem nmOf_b {c : Int32} : -1 ≤ (nmOf c).toInt ∧ (nmOf c).toInt ≤ 5 := by
  unfold nmOf
  repeat' split
  all_goals decide
/-- where a reading ends -/
def GR (n i : Nat) (r : zP) : Prop := (r.1 = true → i < r.2.1 ∧ r.2.1 ≤ n ∧ r.2.2.1.length + i ≤ r.2.1 ∧ 1 ≤ r.2.2.1.length) ∧ r.2.1 ≤ n
def GD (n : Nat) (sub : Nat → zP) : Prop := ∀ i, i ≤ n → GR n i (sub i)
theorem GD_join {i lv : Nat} {r : zP} (hs : GD n sub) (hr : GR n i r) (hl : lv < 5) (h1 : r.1 = true) (h2 : lvOf (chr tx n r.2.1) = Int32.ofNat lv) : GR n i (pJoin tx n sub r) ∧ r.2.1 < (pJoin tx n sub r).2.1 ∨ ((pJoin tx n sub r).1 = false ∧ GR n i (pJoin tx n sub r)) := by
  have hp := lv_in hl h2
  obtain ⟨a1, a2, a3, a4⟩ := hr.1 h1
  have hb := hs (r.2.1 + 1) (by omega)
  by_cases q : (sub (r.2.1 + 1)).1 = true
  · obtain ⟨b1, b2, b3, b4⟩ := hb.1 q
    refine Or.inl ⟨⟨fun _ => ?_, hb.2⟩, ?_⟩
    · unfold pJoin
      simp only [List.length_append, List.length_cons, List.length_nil]
      omega
    · unfold pJoin
      simp only
      omega
  · have q : (sub (r.2.1 + 1)).1 = false := by simpa using q
    refine Or.inr ⟨q, ⟨fun z => ?_, hb.2⟩⟩
    have z : (sub (r.2.1 + 1)).1 = true := z
    rw [q] at z
    exact absurd z (by decide)
theorem GD_loop {i lv : Nat} (hs : GD n sub) (hl : lv < 5) : ∀ f r, GR n i r → GR n i (pLoop tx n sub lv f r) := by
  intro f
  induction f with
  | zero => intro r hr; exact hr
  | succ f ih =>
    intro r hr
    unfold pLoop
    by_cases q : r.1 = true ∧ lvOf (chr tx n r.2.1) = Int32.ofNat lv
    · rw [if_pos q]
      have hj : GR n i (pJoin tx n sub r) := by
        rcases GD_join hs hr hl q.1 q.2 with z | z
        · exact z.1
        · exact z.2
      by_cases q2 : lv = 2
      · rw [if_pos q2]; exact hj
      · rw [if_neg q2]; exact ih _ hj
    · rw [if_neg q]; exact hr
theorem GD_lev {lv : Nat} (hs : GD n sub) (hl : lv < 5) : GD n (pLev tx n sub lv) := fun i hi => GD_loop hs hl 120 _ (hs i hi)
theorem GD_E (hs : GD n sub) : GD n (pE tx n sub) := GD_lev (GD_lev (GD_lev (GD_lev (GD_lev hs (by decide)) (by decide)) (by decide)) (by decide)) (by decide)
theorem pNum_b (htx : ∀ i, i < n → 0 ≤ (tx i).toInt ∧ (tx i).toInt ≤ 255) : ∀ m j i (v : Int32), m + j = 4 → i ≤ n → 0 ≤ v.toInt → v.toInt < 10 ^ j → i ≤ (pNum tx n m i v).1 ∧ (pNum tx n m i v).1 ≤ n ∧ 0 ≤ (pNum tx n m i v).2.toInt ∧ (pNum tx n m i v).2.toInt < 10000 := by
  intro m
  induction m with
  | zero =>
    intro j i v hj hi h0 h1
    have : j = 4 := by omega
    subst this
    exact ⟨Nat.le_refl _, hi, h0, h1⟩
  | succ m ih =>
    intro j i v hj hi h0 h1
    unfold pNum
    by_cases q : digB (chr tx n i) = true
    · rw [if_pos q]
      have hin := dig_in q
      have hd := digB_t.mp q
      have hj3 : j = 0 ∨ j = 1 ∨ j = 2 ∨ j = 3 := by omega
      have hb : v.toInt < 1000 ∧ v.toInt * 10 + (chr tx n i).toInt - 48 < 10 ^ (j + 1) := by
        rcases hj3 with rfl | rfl | rfl | rfl
        all_goals
          simp only [Int.pow_succ, Int.pow_zero] at h1 ⊢
          omega
      have e1 : (v * 10).toInt = v.toInt * 10 := by rw [zmul (by rw [zl_10]; omega) (by rw [zl_10]; omega), zl_10]
      have e2 : (v * 10 + chr tx n i).toInt = v.toInt * 10 + (chr tx n i).toInt := by rw [zadd (by rw [e1]; omega) (by rw [e1]; omega), e1]
      have e3 : (v * 10 + chr tx n i - 48).toInt = v.toInt * 10 + (chr tx n i).toInt - 48 := by rw [zsub (by rw [e2, zl_48]; omega) (by rw [e2, zl_48]; omega), e2, zl_48]
      have := ih (j + 1) (i + 1) (v * 10 + chr tx n i - 48) (by omega) (by omega) (by rw [e3]; omega) (by rw [e3]; exact hb.2)
      exact ⟨by omega, this.2⟩
    · rw [if_neg q]
      refine ⟨Nat.le_refl _, hi, h0, ?_⟩
      have hj3 : j = 0 ∨ j = 1 ∨ j = 2 ∨ j = 3 := by omega
      simp only
      rcases hj3 with rfl | rfl | rfl | rfl
      all_goals
        simp only [Int.pow_succ, Int.pow_zero] at h1
        omega
theorem pNum_4 (htx : ∀ i, i < n → 0 ≤ (tx i).toInt ∧ (tx i).toInt ≤ 255) {i : Nat} (hd : digB (chr tx n i) = true) : i < (pNum tx n 4 i 0).1 ∧ (pNum tx n 4 i 0).1 ≤ n ∧ 0 ≤ (pNum tx n 4 i 0).2.toInt ∧ (pNum tx n 4 i 0).2.toInt < 10000 := by
  have hin := dig_in hd
  have hdd := digB_t.mp hd
  have e : pNum tx n 4 i 0 = pNum tx n 3 (i + 1) (0 * 10 + chr tx n i - 48) := by
    show (if digB (chr tx n i) = true then pNum tx n 3 (i + 1) (0 * 10 + chr tx n i - 48) else (i, 0)) = _
    rw [if_pos hd]
  have e1 : ((0 : Int32) * 10).toInt = 0 := by decide
  have e2 : (0 * 10 + chr tx n i).toInt = (chr tx n i).toInt := by rw [zadd (by rw [e1]; omega) (by rw [e1]; omega), e1]; omega
  have e3 : (0 * 10 + chr tx n i - 48).toInt = (chr tx n i).toInt - 48 := by rw [zsub (by rw [e2, zl_48]; omega) (by rw [e2, zl_48]; omega), e2, zl_48]
  have := pNum_b htx 3 1 (i + 1) (0 * 10 + chr tx n i - 48) (by omega) (by omega) (by rw [e3]; omega) (by rw [e3]; simp only [Int.pow_succ, Int.pow_zero]; omega)
  rw [e]
  exact ⟨by omega, this.2⟩
theorem GR_fail {i w : Nat} (h : w ≤ n) : GR n i (pfail w) := ⟨fun z => absurd (show false = true from z) (by decide), h⟩
theorem GD_op (htx : ∀ i, i < n → 0 ≤ (tx i).toInt ∧ (tx i).toInt ≤ 255) {deep : Bool} (hL : deep = true → GD n subL) (hO : deep = true → GD n subO) : GD n (pOp tx n subL subO deep) := fun i hi => by
  unfold pOp
  by_cases q1 : digB (chr tx n i) = true
  · rw [if_pos q1]
    have := pNum_4 htx q1
    refine ⟨fun _ => ?_, this.2.1⟩
    simp only [List.length_cons, List.length_nil]
    omega
  · rw [if_neg q1]
    by_cases q2 : 0 ≤ (nmOf (chr tx n i)).toInt
    · rw [if_pos q2]
      have := nm_in q2
      refine ⟨fun _ => ?_, by simp only; omega⟩
      simp only [List.length_cons, List.length_nil]
      omega
    · rw [if_neg q2]
      by_cases q3 : deep = false
      · rw [if_pos q3]; exact GR_fail hi
      · rw [if_neg q3]
        have q3 : deep = true := by simpa using q3
        by_cases q4 : chr tx n i = 40
        · rw [if_pos q4]
          have hin := chr_in q4 (by decide)
          have hb := hL q3 (i + 1) (by omega)
          by_cases q5 : (subL (i + 1)).1 = true
          · rw [if_pos q5]
            by_cases q6 : chr tx n (subL (i + 1)).2.1 = 41
            · rw [if_pos q6]
              have hin2 := chr_in q6 (by decide)
              have := hb.1 q5
              refine ⟨fun _ => ?_, by simp only; omega⟩
              simp only
              omega
            · rw [if_neg q6]; exact GR_fail hb.2
          · rw [if_neg q5]; exact GR_fail hb.2
        · rw [if_neg q4]
          by_cases q5 : chr tx n i = 33 ∨ chr tx n i = 45
          · rw [if_pos q5]
            have hin : i < n := by
              rcases q5 with z | z
              · exact chr_in z (by decide)
              · exact chr_in z (by decide)
            have hb := hO q3 (i + 1) (by omega)
            by_cases q6 : (subO (i + 1)).1 = true
            · rw [if_pos q6]
              have := hb.1 q6
              refine ⟨fun _ => ?_, hb.2⟩
              simp only [List.length_append, List.length_cons, List.length_nil]
              omega
            · rw [if_neg q6]; exact GR_fail hb.2
          · rw [if_neg q5]; exact GR_fail hi
theorem GD_O (htx : ∀ i, i < n → 0 ≤ (tx i).toInt ∧ (tx i).toInt ≤ 255) : ∀ k, GD n (pO tx n k) := by
  intro k
  induction k with
  | zero => exact GD_op htx (fun z => absurd z (by decide)) (fun z => absurd z (by decide))
  | succ k ih => exact GD_op htx (fun _ => GD_E ih) (fun _ => ih)
end PP

/-! the reference reads the law -/
def Src (I : jS) (tx : Nat → Int32) (n : Nat) : Prop := (I 71 15).toInt = n ∧ n ≤ 120 ∧ ((I 71 13 = -1 ∧ ∀ i, i < n → I 77 i = tx i) ∨ (I 71 13 = 0 ∧ ∀ i, i < n → I 78 i = tx i))
def MS (I : jS) (i op : Nat) (J : jS) : Prop := ag [] [14, 16, 17] I J ∧ (J 71 14).toInt = i ∧ J 71 16 = -1 ∧ (J 71 17).toInt = op
def MF (I : jS) (w : Nat) (J : jS) : Prop := ag [] [14, 16, 17] I J ∧ (∃ i : Nat, (J 71 14).toInt = i) ∧ (J 71 16).toInt = w
def chm (tx : Nat → Int32) (n i : Nat) : Int32 := if i < n then tx i else 0
theorem chm_eq {tx : Nat → Int32} {n i : Nat} {c : Int32} (h0 : ¬ c = 0) (h1 : ¬ c = -1) : chm tx n i = c ↔ chr tx n i = c := by
  unfold chm chr
  by_cases q : i < n
  · rw [if_pos q, if_pos q]
  · rw [if_neg q, if_neg q]
    exact ⟨fun z => absurd z.symm h0, fun z => absurd z.symm h1⟩
theorem chm_nm {tx : Nat → Int32} {n i : Nat} : nmOf (chm tx n i) = nmOf (chr tx n i) := by
  unfold chm chr
  by_cases q : i < n
  · rw [if_pos q, if_pos q]
  · rw [if_neg q, if_neg q]; decide
theorem chm_dig {tx : Nat → Int32} {n i : Nat} : digB (chm tx n i) = digB (chr tx n i) := by
  unfold chm chr
  by_cases q : i < n
  · rw [if_pos q, if_pos q]
  · rw [if_neg q, if_neg q]; decide
theorem lv_4 {c : Int32} : lvOf c = Int32.ofNat 4 ↔ c = 42 ∨ c = 47 ∨ c = 37 := by
  constructor
  · intro h
    unfold lvOf at h
    by_cases q : c = 37
    · exact Or.inr (Or.inr q)
    rw [if_neg q] at h
    by_cases q : c = 38
    · rw [if_pos q] at h; exact absurd h (by decide)
    rw [if_neg q] at h
    by_cases q : c = 42
    · exact Or.inl q
    rw [if_neg q] at h
    by_cases q : c = 43
    · rw [if_pos q] at h; exact absurd h (by decide)
    rw [if_neg q] at h
    by_cases q : c = 45
    · rw [if_pos q] at h; exact absurd h (by decide)
    rw [if_neg q] at h
    by_cases q : c = 47
    · exact Or.inr (Or.inl q)
    rw [if_neg q] at h
    repeat' split at h
    all_goals exact absurd h (by decide)
  · rintro (rfl | rfl | rfl) <;> decide
theorem lv_3 {c : Int32} : lvOf c = Int32.ofNat 3 ↔ c = 43 ∨ c = 45 := by
  constructor
  · intro h
    unfold lvOf at h
    by_cases q : c = 43
    · exact Or.inl q
    by_cases q2 : c = 45
    · exact Or.inr q2
    rw [if_neg q, if_neg q2] at h
    repeat' split at h
    all_goals exact absurd h (by decide)
  · rintro (rfl | rfl) <;> decide
theorem lv_2 {c : Int32} : lvOf c = Int32.ofNat 2 ↔ c = 60 ∨ c = 61 ∨ c = 62 := by
  constructor
  · intro h
    unfold lvOf at h
    by_cases q : c = 60
    · exact Or.inl q
    by_cases q2 : c = 61
    · exact Or.inr (Or.inl q2)
    by_cases q3 : c = 62
    · exact Or.inr (Or.inr q3)
    rw [if_neg q, if_neg q2, if_neg q3] at h
    repeat' split at h
    all_goals exact absurd h (by decide)
  · rintro (rfl | rfl | rfl) <;> decide
theorem lv_1 {c : Int32} : lvOf c = Int32.ofNat 1 ↔ c = 38 := by
  constructor
  · intro h
    unfold lvOf at h
    by_cases q : c = 38
    · exact q
    rw [if_neg q] at h
    repeat' split at h
    all_goals exact absurd h (by decide)
  · rintro rfl; decide
theorem lv_0 {c : Int32} : lvOf c = Int32.ofNat 0 ↔ c = 124 := by
  constructor
  · intro h
    unfold lvOf at h
    by_cases q : c = 124
    · exact q
    rw [if_neg q] at h
    repeat' split at h
    all_goals exact absurd h (by decide)
  · rintro rfl; decide
section MP
variable {G : jG} {l : Launch} {d : Nat} {I J : jS} {L : jL} {Q : Int32 → jS → jL → Prop} {tx : Nat → Int32} {n op : Nat} {E : lE} {sub subL subO : Nat → zP}
theorem tX12_byteAt {i : Nat} (hS : Src I tx n) (ha : ag [] [14, 16, 17] I J) (h14 : (J 71 14).toInt = i) (h : Q (chm tx n i) J L) : cI G l mX12_byteAt (d + 1) [.ref 71] J L Q := by
  obtain ⟨s1, s2, s3⟩ := hS
  have e15 : J 71 15 = I 71 15 := ha.m 15
  have e13 : J 71 13 = I 71 13 := ha.m 13
  have en : (J 71 14).toNatClampNeg = i := by rw [znat, h14]; omega
  refine wX12_byteAt_ok ?_
  unfold wX12_byteAt
  unfold chm at h
  rw [e15, e13]
  refine ife (fun q => ri ?_) (fun q => ?_)
  · rw [zle, s1, h14] at q
    rw [if_neg (by omega)] at h; exact h
  · rw [zle, s1, h14] at q
    rw [if_pos (by omega)] at h
    rcases s3 with ⟨b, t⟩ | ⟨b, t⟩
    · rw [b, if_neg (by decide)]
      refine ⟨by rw [zin, h14]; omega, ri ?_⟩
      rw [en, ha.c 77, t i (by omega)]; exact h
    · rw [b, if_pos (by decide), Int32.zero_add]
      refine ⟨by rw [zin, h14]; omega, ri ?_⟩
      rw [en, ha.c 78, t i (by omega)]; exact h
theorem MS.adv {i : Nat} (h : MS I i op J) (hi : i ≤ 1000) : MS I (i + 1) op (u2 J 71 14 (J 71 14 + 1)) := by
  obtain ⟨a1, a2, a3, a4⟩ := h
  refine ⟨agm a1 (by decide), ?_, ?_, ?_⟩
  · rw [u2e, zadd (by rw [a2, z1]; omega) (by rw [a2, z1]; omega), a2, z1]; omega
  · rw [u2i (by decide)]; exact a3
  · rw [u2i (by decide)]; exact a4
theorem MS.ge {i : Nat} (h : MS I i op J) : ¬ (0 : Int32) ≤ J 71 16 := by rw [h.2.2.1]; decide
theorem MF.ge {w : Nat} (h : MF I w J) : (0 : Int32) ≤ J 71 16 := by rw [zle, z0, h.2.2]; omega
theorem tX12_takes {i : Nat} {c : Int32} (hS : Src I tx n) (h0 : MS I i op J) (hi : i ≤ n) (c0 : ¬ c = 0) (c1 : ¬ c = -1) (h1 : chr tx n i = c → ∀ J', MS I (i + 1) op J' → Q 1 J' L) (h2 : ¬ chr tx n i = c → Q 0 J L) : cI G l mX12_takes (d + 2) [.ref 71, .int c] J L Q := by
  have hn := hS.2.1
  refine wX12_takes_ok ?_
  unfold wX12_takes
  rw [if_neg h0.ge]
  refine tX12_byteAt hS h0.1 h0.2.1 ?_
  refine ife (fun q => ri (h1 ((chm_eq c0 c1).mp q) _ (h0.adv (by omega)))) (fun q => ri (h2 (fun z => q ((chm_eq c0 c1).mpr z))))
theorem tX12_takesD {w : Nat} {c : Int32} (h0 : MF I w J) (h : Q 0 J L) : cI G l mX12_takes (d + 1) [.ref 71, .int c] J L Q := by
  refine wX12_takes_ok ?_
  unfold wX12_takes
  rw [if_pos h0.ge]
  exact ri h
theorem tX12_wrong {i : Nat} (h0 : MS I i op J) (h : ∀ J', MF I i J' → Q 0 J' L) : cI G l mX12_wrong (d + 1) [.ref 71] J L Q := by
  obtain ⟨a1, a2, a3, a4⟩ := id h0
  refine wX12_wrong_ok ?_
  unfold wX12_wrong
  rw [if_neg h0.ge]
  refine ri (h _ ⟨agm a1 (by decide), ⟨i, ?_⟩, ?_⟩)
  · rw [u2i (by decide)]; exact a2
  · rw [u2e]; exact a2
theorem tX12_wrongD {w : Nat} (h0 : MF I w J) (h : ∀ J', MF I w J' → Q 0 J' L) : cI G l mX12_wrong (d + 1) [.ref 71] J L Q := by
  obtain ⟨a1, ⟨i, a2⟩, a3⟩ := id h0
  refine wX12_wrong_ok ?_
  unfold wX12_wrong
  rw [if_pos h0.ge]
  refine ri (h _ ⟨agm a1 (by decide), ⟨i, ?_⟩, ?_⟩)
  · rw [u2i (by decide)]; exact a2
  · rw [u2e]; exact a3
theorem tX12_nameOf {c : Int32} (h : Q (nmOf c) J L) : cI G l mX12_nameOf (d + 1) [.int c] J L Q := by
  refine wX12_nameOf_ok ?_
  unfold wX12_nameOf
  unfold nmOf at h
  refine ife (fun q => ?_) (fun q => ?_)
  · rw [if_pos q] at h; exact ri h
  rw [if_neg q] at h
  refine ife (fun q => ?_) (fun q => ?_)
  · rw [if_pos q] at h; exact ri h
  rw [if_neg q] at h
  refine ife (fun q => ?_) (fun q => ?_)
  · rw [if_pos q] at h; exact ri h
  rw [if_neg q] at h
  refine ife (fun q => ?_) (fun q => ?_)
  · rw [if_pos q] at h; exact ri h
  rw [if_neg q] at h
  refine ife (fun q => ?_) (fun q => ?_)
  · rw [if_pos q] at h; exact ri h
  rw [if_neg q] at h
  refine ife (fun q => ?_) (fun q => ?_)
  · rw [if_pos q] at h; exact ri h
  rw [if_neg q] at h
  exact ri h
/-- a reader of the reference -/
def RRd (G : jG) (l : Launch) (I : jS) (L : jL) (n op : Nat) (E : lE) (M : jM) (D : Nat) (sub : Nat → zP) : Prop := ∀ (i : Nat) (J : jS) (Q : Int32 → jS → jL → Prop), MS I i op J → i ≤ n → ((sub i).1 = true → ∀ J', MS I (sub i).2.1 op J' → Q ((sub i).2.2.2 E) J' L) → ((sub i).1 = false → ∀ v J', MF I (sub i).2.1 J' → Q v J' L) → cI G l M D [.ref 71] J L Q
def RDd (G : jG) (l : Launch) (I : jS) (L : jL) (M : jM) (D : Nat) : Prop := ∀ (w : Nat) (J : jS) (Q : Int32 → jS → jL → Prop), MF I w J → (∀ v, Q v J L) → cI G l M D [.ref 71] J L Q
theorem RD_one : RDd G l I L mX12_one (d + 1) := fun w J Q h0 h => by
  refine wX12_one_ok ?_
  unfold wX12_one
  have := h0.ge
  rw [if_neg (by rw [zlt, z0]; rw [zle, z0] at this; omega)]
  exact ri (h 0)
theorem RD_prod (hS : Src I tx n) {D : Nat} (hD : RDd G l I L mX12_one (D + 1)) : RDd G l I L mX12_product (D + 2) := fun w J Q h0 h => by
  obtain ⟨a1, ⟨i, a2⟩, a3⟩ := id h0
  refine wX12_product_ok ?_
  unfold wX12_product
  refine hD w J _ h0 (fun v => tX12_byteAt hS a1 a2 ⟨1, ?_⟩)
  unfold wX12_product_10
  rw [if_pos h0.ge]
  exact ri (h v)
theorem RD_sums {D : Nat} (hD : RDd G l I L mX12_product (D + 1)) : RDd G l I L mX12_sums (D + 2) := fun w J Q h0 h => by
  refine wX12_sums_ok ?_
  unfold wX12_sums
  refine hD w J _ h0 (fun v => ⟨1, ?_⟩)
  unfold wX12_sums_5
  rw [if_pos h0.ge]
  exact ri (h v)
theorem RD_comp (hS : Src I tx n) {D : Nat} (hD : RDd G l I L mX12_sums (D + 1)) : RDd G l I L mX12_compared (D + 2) := fun w J Q h0 h => by
  obtain ⟨a1, ⟨i, a2⟩, a3⟩ := id h0
  refine wX12_compared_ok ?_
  unfold wX12_compared
  refine hD w J _ h0 (fun v => tX12_byteAt hS a1 a2 ?_)
  rw [if_pos h0.ge]
  exact ri (h v)
theorem RD_both {D : Nat} (hD : RDd G l I L mX12_compared (D + 1)) : RDd G l I L mX12_both (D + 2) := fun w J Q h0 h => by
  refine wX12_both_ok ?_
  unfold wX12_both
  refine hD w J _ h0 (fun v => ⟨1, ?_⟩)
  unfold wX12_both_5
  refine tX12_takesD h0 ?_
  rw [if_pos rfl]
  exact ri (h v)
theorem RD_either {D : Nat} (hD : RDd G l I L mX12_both (D + 1)) : RDd G l I L mX12_either (D + 2) := fun w J Q h0 h => by
  refine wX12_either_ok ?_
  unfold wX12_either
  refine hD w J _ h0 (fun v => ⟨1, ?_⟩)
  unfold wX12_either_5
  refine tX12_takesD h0 ?_
  rw [if_pos rfl]
  exact ri (h v)
theorem pL_f {f lv : Nat} {r : zP} (h : r.1 = false) : pLoop tx n sub lv f r = r := by
  cases f with
  | zero => rfl
  | succ f =>
    unfold pLoop
    rw [if_neg (fun z => by rw [h] at z; exact absurd z.1 (by decide))]
theorem pL_s {f lv : Nat} {r : zP} (h : ¬ lvOf (chr tx n r.2.1) = Int32.ofNat lv) : pLoop tx n sub lv f r = r := by
  cases f with
  | zero => rfl
  | succ f =>
    unfold pLoop
    rw [if_neg (fun z => h z.2)]
theorem pL_j {f lv : Nat} {r : zP} (h1 : r.1 = true) (h2 : lvOf (chr tx n r.2.1) = Int32.ofNat lv) (h3 : lv ≠ 2) : pLoop tx n sub lv (f + 1) r = pLoop tx n sub lv f (pJoin tx n sub r) := by
  show (if r.1 = true ∧ lvOf (chr tx n r.2.1) = Int32.ofNat lv then (if lv = 2 then pJoin tx n sub r else pLoop tx n sub lv f (pJoin tx n sub r)) else r) = _
  rw [if_pos ⟨h1, h2⟩, if_neg h3]
theorem jn42 {a b : Int32} : jnd 42 a b = a * b := rfl
theorem jn47 {a b : Int32} : jnd 47 a b = if b = 0 then 0 else a / b := rfl
theorem jn37 {a b : Int32} : jnd 37 a b = if b = 0 then 0 else a - a / b * b := rfl
theorem R_prod {D : Nat} (hS : Src I tx n) (hs : GD n sub) (hC : RRd G l I L n op E mX12_one (D + 1) sub) : RRd G l I L n op E mX12_product (D + 2) (pLev tx n sub 4) := fun i J Q h0 hi h1 h2 => by
  have hn := hS.2.1
  unfold pLev at h1 h2
  generalize hR : pLoop tx n sub 4 120 (sub i) = R at h1 h2
  have bad : ∀ m x1 x2 J1 w, MF I w J1 → R.1 = false → w = R.2.1 → wX12_product_10 G l (D + 1) (fun v I' L' => ∃ r, v = some (.int r) ∧ Q r I' L') (m + 1) x1 x2 J1 L := fun m x1 x2 J1 w hF q hw => by
    unfold wX12_product_10
    rw [if_pos hF.ge]
    exact ri (h2 q _ J1 (by rw [← hw]; exact hF))
  have loop : ∀ (f : Nat) (r : zP) J1, 121 ≤ f + r.2.1 → r.1 = true → GR n i r → MS I r.2.1 op J1 → pLoop tx n sub 4 f r = R → wX12_product_10 G l (D + 1) (fun v I' L' => ∃ r, v = some (.int r) ∧ Q r I' L') (f + 1) (r.2.2.2 E) (chm tx n r.2.1) J1 L := by
    intro f
    induction f with
    | zero => intro r J1 hf hr hG; have := hG.2; omega
    | succ f ih =>
      intro r J1 hf hr hG hM he
      unfold wX12_product_10
      rw [if_neg hM.ge]
      have go : ∀ (c : Int32), chr tx n r.2.1 = c → (c = 42 ∨ c = 47 ∨ c = 37) → wX12_product_35 G l (D + 1) (fun z0 z1 I L => wX12_product_10 G l (D + 1) (fun v I' L' => ∃ r, v = some (.int r) ∧ Q r I' L') (f + 1) z0 z1 I L) (fun v I' L' => ∃ r, v = some (.int r) ∧ Q r I' L') (r.2.2.2 E) c J1 L := fun c hc hcc => by
        have q : lvOf (chr tx n r.2.1) = Int32.ofNat 4 := by rw [hc]; exact lv_4.mpr hcc
        have hin := lv_in (show 4 < 5 by decide) q
        rw [pL_j hr q (by decide)] at he
        have hGj := GD_join (tx := tx) hs hG (show 4 < 5 by decide) hr q
        unfold wX12_product_35
        refine hC (r.2.1 + 1) _ _ (hM.adv (by omega)) (by omega) (fun qb J2 hM2 => ?_) (fun qb v J2 hF => ?_)
        · have hj1 : (pJoin tx n sub r).1 = true := qb
          have hjv : (pJoin tx n sub r).2.2.2 E = jnd c (r.2.2.2 E) ((sub (r.2.1 + 1)).2.2.2 E) := by rw [← hc]; rfl
          have hjp : (pJoin tx n sub r).2.1 = (sub (r.2.1 + 1)).2.1 := rfl
          have hgr : GR n i (pJoin tx n sub r) ∧ r.2.1 < (pJoin tx n sub r).2.1 := by
            rcases hGj with z | z
            · exact z
            · rw [hj1] at z; exact absurd z.1 (by decide)
          have nxt : ∀ x : Int32, x = (pJoin tx n sub r).2.2.2 E → wX12_product_85 G l (D + 1) (fun z0 z1 I L => wX12_product_10 G l (D + 1) (fun v I' L' => ∃ r, v = some (.int r) ∧ Q r I' L') (f + 1) z0 z1 I L) (fun v I' L' => ∃ r, v = some (.int r) ∧ Q r I' L') x J2 L := fun x hx => by
            unfold wX12_product_85
            refine tX12_byteAt hS hM2.1 hM2.2.1 ?_
            rw [hx]
            exact ih (pJoin tx n sub r) J2 (by omega) hj1 hgr.1 hM2 he
          generalize (sub (r.2.1 + 1)).2.2.2 E = b at *
          refine ife (fun z => nxt _ ?_) (fun z => ife (fun z2 => nxt _ ?_) (fun z2 => ife (fun z3 => ⟨z2, nxt _ ?_⟩) (fun z3 => ⟨z2, nxt _ ?_⟩)))
          · rw [hjv, z, jn42]
          · rcases hcc with w | w | w
            · exact absurd w z
            · rw [hjv, w, jn47, if_pos z2]
            · rw [hjv, w, jn37, if_pos z2]
          · rw [hjv, z3, jn47, if_neg z2]
          · rcases hcc with w | w | w
            · exact absurd w z
            · exact absurd w z3
            · rw [hjv, w, jn37, if_neg z2]
        · have hj1 : (pJoin tx n sub r).1 = false := qb
          rw [pL_f hj1] at he
          obtain ⟨b1, ⟨j, b2⟩, b3⟩ := id hF
          have nxt : ∀ x : Int32, wX12_product_85 G l (D + 1) (fun z0 z1 I L => wX12_product_10 G l (D + 1) (fun v I' L' => ∃ r, v = some (.int r) ∧ Q r I' L') (f + 1) z0 z1 I L) (fun v I' L' => ∃ r, v = some (.int r) ∧ Q r I' L') x J2 L := fun x => by
            unfold wX12_product_85
            exact tX12_byteAt hS b1 b2 (bad f _ _ J2 _ hF (by rw [← he]; exact hj1) (by rw [← he]; rfl))
          exact ife (fun z => nxt _) (fun z => ife (fun z2 => nxt _) (fun z2 => ife (fun z3 => ⟨z2, nxt _⟩) (fun z3 => ⟨z2, nxt _⟩)))
      by_cases q1 : chr tx n r.2.1 = 42
      · have e : chm tx n r.2.1 = 42 := (chm_eq (by decide) (by decide)).mpr q1
        rw [e, if_pos rfl]
        exact go 42 q1 (Or.inl rfl)
      have n1 : ¬ chm tx n r.2.1 = 42 := fun z => q1 ((chm_eq (by decide) (by decide)).mp z)
      rw [if_neg n1]
      by_cases q2 : chr tx n r.2.1 = 47
      · have e : chm tx n r.2.1 = 47 := (chm_eq (by decide) (by decide)).mpr q2
        rw [e, if_pos rfl]
        exact go 47 q2 (Or.inr (Or.inl rfl))
      have n2 : ¬ chm tx n r.2.1 = 47 := fun z => q2 ((chm_eq (by decide) (by decide)).mp z)
      rw [if_neg n2]
      by_cases q3 : chr tx n r.2.1 = 37
      · have e : chm tx n r.2.1 = 37 := (chm_eq (by decide) (by decide)).mpr q3
        rw [e, if_pos rfl]
        exact go 37 q3 (Or.inr (Or.inr rfl))
      have n3 : ¬ chm tx n r.2.1 = 37 := fun z => q3 ((chm_eq (by decide) (by decide)).mp z)
      rw [if_neg n3]
      rw [pL_s (fun z => by rcases lv_4.mp z with w | w | w; exact q1 w; exact q2 w; exact q3 w)] at he
      rw [← he] at h1
      exact ri (h1 hr J1 hM)
  refine wX12_product_ok ?_
  unfold wX12_product
  refine hC i J _ h0 hi (fun qa J1 hM => tX12_byteAt hS hM.1 hM.2.1 ⟨_, loop 120 (sub i) J1 (by have := ((hs i hi).1 qa).1; omega) qa (hs i hi) hM hR⟩) (fun qa v J1 hF => ?_)
  obtain ⟨b1, ⟨j, b2⟩, b3⟩ := id hF
  rw [pL_f qa] at hR
  exact tX12_byteAt hS b1 b2 ⟨1, bad 0 _ _ J1 _ hF (by rw [← hR]; exact qa) (by rw [← hR])⟩
theorem R_sums {D : Nat} (hS : Src I tx n) (hs : GD n sub) (hC : RRd G l I L n op E mX12_product (D + 1) sub) : RRd G l I L n op E mX12_sums (D + 2) (pLev tx n sub 3) := fun i J Q h0 hi h1 h2 => by
  have hn := hS.2.1
  unfold pLev at h1 h2
  generalize hR : pLoop tx n sub 3 120 (sub i) = R at h1 h2
  have bad : ∀ m x1 J1 w, MF I w J1 → R.1 = false → w = R.2.1 → wX12_sums_5 G l (D + 1) (fun v I' L' => ∃ r, v = some (.int r) ∧ Q r I' L') (m + 1) x1 J1 L := fun m x1 J1 w hF q hw => by
    unfold wX12_sums_5
    rw [if_pos hF.ge]
    exact ri (h2 q _ J1 (by rw [← hw]; exact hF))
  have loop : ∀ (f : Nat) (r : zP) J1, 121 ≤ f + r.2.1 → r.1 = true → GR n i r → MS I r.2.1 op J1 → pLoop tx n sub 3 f r = R → wX12_sums_5 G l (D + 1) (fun v I' L' => ∃ r, v = some (.int r) ∧ Q r I' L') (f + 1) (r.2.2.2 E) J1 L := by
    intro f
    induction f with
    | zero => intro r J1 hf hr hG; have := hG.2; omega
    | succ f ih =>
      intro r J1 hf hr hG hM he
      unfold wX12_sums_5
      rw [if_neg hM.ge]
      have go : ∀ (c t0 : Int32), chr tx n r.2.1 = c → (c = 43 ∧ t0 = 1 ∨ c = 45 ∧ t0 = 0) → wX12_sums_44 G l (D + 1) (fun z0 I L => wX12_sums_5 G l (D + 1) (fun v I' L' => ∃ r, v = some (.int r) ∧ Q r I' L') (f + 1) z0 I L) (fun v I' L' => ∃ r, v = some (.int r) ∧ Q r I' L') (r.2.2.2 E) t0 J1 L := fun c t0 hc hcc => by
        have q : lvOf (chr tx n r.2.1) = Int32.ofNat 3 := by rw [hc]; exact lv_3.mpr (hcc.elim (fun z => Or.inl z.1) (fun z => Or.inr z.1))
        have hin := lv_in (show 3 < 5 by decide) q
        rw [pL_j hr q (by decide)] at he
        have hGj := GD_join (tx := tx) hs hG (show 3 < 5 by decide) hr q
        unfold wX12_sums_44
        refine hC (r.2.1 + 1) _ _ (hM.adv (by omega)) (by omega) (fun qb J2 hM2 => ?_) (fun qb v J2 hF => ?_)
        · have hj1 : (pJoin tx n sub r).1 = true := qb
          have hjv : (pJoin tx n sub r).2.2.2 E = jnd c (r.2.2.2 E) ((sub (r.2.1 + 1)).2.2.2 E) := by rw [← hc]; rfl
          have hgr : GR n i (pJoin tx n sub r) ∧ r.2.1 < (pJoin tx n sub r).2.1 := by
            rcases hGj with z | z
            · exact z
            · rw [hj1] at z; exact absurd z.1 (by decide)
          have nxt : ∀ x : Int32, x = (pJoin tx n sub r).2.2.2 E → wX12_sums_5 G l (D + 1) (fun v I' L' => ∃ r, v = some (.int r) ∧ Q r I' L') (f + 1) x J2 L := fun x hx => by
            rw [hx]
            exact ih (pJoin tx n sub r) J2 (by omega) hj1 hgr.1 hM2 he
          rcases hcc with ⟨w, w2⟩ | ⟨w, w2⟩
          · rw [w2, if_neg (by decide)]
            exact nxt _ (by rw [hjv, w]; rfl)
          · rw [w2, if_pos rfl]
            exact nxt _ (by rw [hjv, w]; rfl)
        · have hj1 : (pJoin tx n sub r).1 = false := qb
          rw [pL_f hj1] at he
          have nxt : ∀ x : Int32, wX12_sums_5 G l (D + 1) (fun v I' L' => ∃ r, v = some (.int r) ∧ Q r I' L') (f + 1) x J2 L := fun x => bad f _ J2 _ hF (by rw [← he]; exact hj1) (by rw [← he]; rfl)
          exact ife (fun z => nxt _) (fun z => nxt _)
      refine tX12_byteAt hS hM.1 hM.2.1 ?_
      by_cases q1 : chr tx n r.2.1 = 43
      · have e : chm tx n r.2.1 = 43 := (chm_eq (by decide) (by decide)).mpr q1
        rw [e, if_pos rfl]
        unfold wX12_sums_30
        refine tX12_byteAt hS hM.1 hM.2.1 ?_
        rw [e, if_pos rfl]
        exact go 43 1 q1 (Or.inl ⟨rfl, rfl⟩)
      have n1 : ¬ chm tx n r.2.1 = 43 := fun z => q1 ((chm_eq (by decide) (by decide)).mp z)
      rw [if_neg n1]
      refine tX12_byteAt hS hM.1 hM.2.1 ?_
      by_cases q2 : chr tx n r.2.1 = 45
      · have e : chm tx n r.2.1 = 45 := (chm_eq (by decide) (by decide)).mpr q2
        rw [e, if_pos rfl]
        unfold wX12_sums_30
        refine tX12_byteAt hS hM.1 hM.2.1 ?_
        rw [if_neg n1]
        exact go 45 0 q2 (Or.inr ⟨rfl, rfl⟩)
      have n2 : ¬ chm tx n r.2.1 = 45 := fun z => q2 ((chm_eq (by decide) (by decide)).mp z)
      rw [if_neg n2]
      rw [pL_s (fun z => by rcases lv_3.mp z with w | w; exact q1 w; exact q2 w)] at he
      rw [← he] at h1
      exact ri (h1 hr J1 hM)
  refine wX12_sums_ok ?_
  unfold wX12_sums
  refine hC i J _ h0 hi (fun qa J1 hM => ⟨_, loop 120 (sub i) J1 (by have := ((hs i hi).1 qa).1; omega) qa (hs i hi) hM hR⟩) (fun qa v J1 hF => ?_)
  rw [pL_f qa] at hR
  exact ⟨1, bad 0 _ J1 _ hF (by rw [← hR]; exact qa) (by rw [← hR])⟩
theorem R_comp {D : Nat} (hS : Src I tx n) (hs : GD n sub) (hC : RRd G l I L n op E mX12_sums (D + 1) sub) : RRd G l I L n op E mX12_compared (D + 2) (pLev tx n sub 2) := fun i J Q h0 hi h1 h2 => by
  have hn := hS.2.1
  unfold pLev at h1 h2
  generalize hR : pLoop tx n sub 2 120 (sub i) = R at h1 h2
  refine wX12_compared_ok ?_
  unfold wX12_compared
  refine hC i J _ h0 hi (fun qa J1 hM => ?_) (fun qa v J1 hF => ?_)
  · refine tX12_byteAt hS hM.1 hM.2.1 ?_
    rw [if_neg hM.ge]
    have go : ∀ c : Int32, chr tx n (sub i).2.1 = c → (c = 60 ∨ c = 61 ∨ c = 62) → wX12_compared_37 G l (D + 1) (fun v I' L' => ∃ r, v = some (.int r) ∧ Q r I' L') ((sub i).2.2.2 E) c J1 L := fun c hc hcc => by
      have q : lvOf (chr tx n (sub i).2.1) = Int32.ofNat 2 := by rw [hc]; exact lv_2.mpr hcc
      have hin := lv_in (show 2 < 5 by decide) q
      have hRj : pJoin tx n sub (sub i) = R := by
        rw [← hR]
        show _ = (if (sub i).1 = true ∧ lvOf (chr tx n (sub i).2.1) = Int32.ofNat 2 then (if 2 = 2 then pJoin tx n sub (sub i) else pLoop tx n sub 2 119 (pJoin tx n sub (sub i))) else sub i)
        rw [if_pos ⟨qa, q⟩, if_pos rfl]
      unfold wX12_compared_37
      refine hC ((sub i).2.1 + 1) _ _ (hM.adv (by omega)) (by omega) (fun qb J2 hM2 => ?_) (fun qb v J2 hF => ?_)
      · have hjv : R.2.2.2 E = jnd c ((sub i).2.2.2 E) ((sub ((sub i).2.1 + 1)).2.2.2 E) := by rw [← hc, ← hRj]; rfl
        have hfin : Q (R.2.2.2 E) J2 L := h1 (by rw [← hRj]; exact qb) J2 (by rw [← hRj]; exact hM2)
        rw [hjv] at hfin
        rcases hcc with w | w | w
        · rw [w] at hfin ⊢
          rw [if_pos rfl]
          have e : jnd 60 ((sub i).2.2.2 E) ((sub ((sub i).2.1 + 1)).2.2.2 E) = if (sub ((sub i).2.1 + 1)).2.2.2 E ≤ (sub i).2.2.2 E then 0 else 1 := rfl
          rw [e] at hfin
          refine ife (fun z => ?_) (fun z => ?_)
          · rw [if_pos z] at hfin; exact ri hfin
          · rw [if_neg z] at hfin; exact ri hfin
        · rw [w] at hfin ⊢
          rw [if_neg (by decide), if_pos rfl]
          have e : jnd 61 ((sub i).2.2.2 E) ((sub ((sub i).2.1 + 1)).2.2.2 E) = if (sub i).2.2.2 E = (sub ((sub i).2.1 + 1)).2.2.2 E then 1 else 0 := rfl
          rw [e] at hfin
          refine ife (fun z => ?_) (fun z => ?_)
          · rw [if_pos z] at hfin; exact ri hfin
          · rw [if_neg z] at hfin; exact ri hfin
        · rw [w] at hfin ⊢
          rw [if_neg (by decide), if_neg (by decide)]
          have e : jnd 62 ((sub i).2.2.2 E) ((sub ((sub i).2.1 + 1)).2.2.2 E) = if (sub i).2.2.2 E ≤ (sub ((sub i).2.1 + 1)).2.2.2 E then 0 else 1 := rfl
          rw [e] at hfin
          refine ife (fun z => ?_) (fun z => ?_)
          · rw [if_pos z] at hfin; exact ri hfin
          · rw [if_neg z] at hfin; exact ri hfin
      · have hfin : ∀ v, Q v J2 L := fun v => h2 (by rw [← hRj]; exact qb) v J2 (by rw [← hRj]; exact hF)
        exact ife (fun z => ife (fun _ => ri (hfin _)) (fun _ => ri (hfin _))) (fun z => ife (fun _ => ife (fun _ => ri (hfin _)) (fun _ => ri (hfin _))) (fun _ => ife (fun _ => ri (hfin _)) (fun _ => ri (hfin _))))
    by_cases q1 : chr tx n (sub i).2.1 = 60
    · have e : chm tx n (sub i).2.1 = 60 := (chm_eq (by decide) (by decide)).mpr q1
      rw [e, if_pos rfl]
      exact go 60 q1 (Or.inl rfl)
    have n1 : ¬ chm tx n (sub i).2.1 = 60 := fun z => q1 ((chm_eq (by decide) (by decide)).mp z)
    rw [if_neg n1]
    by_cases q2 : chr tx n (sub i).2.1 = 61
    · have e : chm tx n (sub i).2.1 = 61 := (chm_eq (by decide) (by decide)).mpr q2
      rw [e, if_pos rfl]
      exact go 61 q2 (Or.inr (Or.inl rfl))
    have n2 : ¬ chm tx n (sub i).2.1 = 61 := fun z => q2 ((chm_eq (by decide) (by decide)).mp z)
    rw [if_neg n2]
    by_cases q3 : chr tx n (sub i).2.1 = 62
    · have e : chm tx n (sub i).2.1 = 62 := (chm_eq (by decide) (by decide)).mpr q3
      rw [e, if_pos rfl]
      exact go 62 q3 (Or.inr (Or.inr rfl))
    have n3 : ¬ chm tx n (sub i).2.1 = 62 := fun z => q3 ((chm_eq (by decide) (by decide)).mp z)
    rw [if_neg n3]
    rw [pL_s (fun z => by rcases lv_2.mp z with w | w | w; exact q1 w; exact q2 w; exact q3 w)] at hR
    rw [← hR] at h1
    exact ri (h1 qa J1 hM)
  · obtain ⟨b1, ⟨j, b2⟩, b3⟩ := id hF
    refine tX12_byteAt hS b1 b2 ?_
    rw [if_pos hF.ge]
    rw [pL_f qa] at hR
    exact ri (h2 (by rw [← hR]; exact qa) v J1 (by rw [← hR]; exact hF))
theorem R_both {D : Nat} (hS : Src I tx n) (hs : GD n sub) (hC : RRd G l I L n op E mX12_compared (D + 2) sub) : RRd G l I L n op E mX12_both (D + 3) (pLev tx n sub 1) := fun i J Q h0 hi h1 h2 => by
  have hn := hS.2.1
  unfold pLev at h1 h2
  generalize hR : pLoop tx n sub 1 120 (sub i) = R at h1 h2
  have bad : ∀ m x1 J1 w, MF I w J1 → R.1 = false → w = R.2.1 → wX12_both_5 G l (D + 2) (fun v I' L' => ∃ r, v = some (.int r) ∧ Q r I' L') (m + 1) x1 J1 L := fun m x1 J1 w hF q hw => by
    unfold wX12_both_5
    refine tX12_takesD hF ?_
    rw [if_pos rfl]
    exact ri (h2 q _ J1 (by rw [← hw]; exact hF))
  have loop : ∀ (f : Nat) (r : zP) J1, 121 ≤ f + r.2.1 → r.1 = true → GR n i r → MS I r.2.1 op J1 → pLoop tx n sub 1 f r = R → wX12_both_5 G l (D + 2) (fun v I' L' => ∃ r, v = some (.int r) ∧ Q r I' L') (f + 1) (r.2.2.2 E) J1 L := by
    intro f
    induction f with
    | zero => intro r J1 hf hr hG; have := hG.2; omega
    | succ f ih =>
      intro r J1 hf hr hG hM he
      unfold wX12_both_5
      refine tX12_takes hS hM hG.2 (by decide) (by decide) (fun hc J2 hM2 => ?_) (fun hc => ?_)
      · rw [if_neg (by decide)]
        have q : lvOf (chr tx n r.2.1) = Int32.ofNat 1 := lv_1.mpr hc
        have hin := lv_in (show 1 < 5 by decide) q
        rw [pL_j hr q (by decide)] at he
        have hGj := GD_join (tx := tx) hs hG (show 1 < 5 by decide) hr q
        refine hC (r.2.1 + 1) _ _ hM2 (by omega) (fun qb J3 hM3 => ?_) (fun qb v J3 hF => ?_)
        · have hj1 : (pJoin tx n sub r).1 = true := qb
          have hjv : (pJoin tx n sub r).2.2.2 E = jnd 38 (r.2.2.2 E) ((sub (r.2.1 + 1)).2.2.2 E) := by rw [← hc]; rfl
          have hgr : GR n i (pJoin tx n sub r) ∧ r.2.1 < (pJoin tx n sub r).2.1 := by
            rcases hGj with z | z
            · exact z
            · rw [hj1] at z; exact absurd z.1 (by decide)
          have nxt : ∀ x : Int32, x = (pJoin tx n sub r).2.2.2 E → wX12_both_5 G l (D + 2) (fun v I' L' => ∃ r, v = some (.int r) ∧ Q r I' L') (f + 1) x J3 L := fun x hx => by
            rw [hx]
            exact ih (pJoin tx n sub r) J3 (by omega) hj1 hgr.1 hM3 he
          have e : jnd 38 (r.2.2.2 E) ((sub (r.2.1 + 1)).2.2.2 E) = if r.2.2.2 E = 0 then 0 else if (sub (r.2.1 + 1)).2.2.2 E = 0 then 0 else 1 := rfl
          rw [e] at hjv
          refine ife (fun z => nxt _ ?_) (fun z => ife (fun z2 => nxt _ ?_) (fun z2 => nxt _ ?_))
          · rw [hjv, if_pos z]
          · rw [hjv, if_neg z, if_pos z2]
          · rw [hjv, if_neg z, if_neg z2]
        · have hj1 : (pJoin tx n sub r).1 = false := qb
          rw [pL_f hj1] at he
          have nxt : ∀ x : Int32, wX12_both_5 G l (D + 2) (fun v I' L' => ∃ r, v = some (.int r) ∧ Q r I' L') (f + 1) x J3 L := fun x => bad f _ J3 _ hF (by rw [← he]; exact hj1) (by rw [← he]; rfl)
          exact ife (fun z => nxt _) (fun z => ife (fun _ => nxt _) (fun _ => nxt _))
      · rw [if_pos rfl]
        rw [pL_s (fun z => hc (lv_1.mp z))] at he
        rw [← he] at h1
        exact ri (h1 hr J1 hM)
  refine wX12_both_ok ?_
  unfold wX12_both
  refine hC i J _ h0 hi (fun qa J1 hM => ⟨_, loop 120 (sub i) J1 (by have := ((hs i hi).1 qa).1; omega) qa (hs i hi) hM hR⟩) (fun qa v J1 hF => ?_)
  rw [pL_f qa] at hR
  exact ⟨1, bad 0 _ J1 _ hF (by rw [← hR]; exact qa) (by rw [← hR])⟩
theorem R_either {D : Nat} (hS : Src I tx n) (hs : GD n sub) (hC : RRd G l I L n op E mX12_both (D + 2) sub) : RRd G l I L n op E mX12_either (D + 3) (pLev tx n sub 0) := fun i J Q h0 hi h1 h2 => by
  have hn := hS.2.1
  unfold pLev at h1 h2
  generalize hR : pLoop tx n sub 0 120 (sub i) = R at h1 h2
  have bad : ∀ m x1 J1 w, MF I w J1 → R.1 = false → w = R.2.1 → wX12_either_5 G l (D + 2) (fun v I' L' => ∃ r, v = some (.int r) ∧ Q r I' L') (m + 1) x1 J1 L := fun m x1 J1 w hF q hw => by
    unfold wX12_either_5
    refine tX12_takesD hF ?_
    rw [if_pos rfl]
    exact ri (h2 q _ J1 (by rw [← hw]; exact hF))
  have loop : ∀ (f : Nat) (r : zP) J1, 121 ≤ f + r.2.1 → r.1 = true → GR n i r → MS I r.2.1 op J1 → pLoop tx n sub 0 f r = R → wX12_either_5 G l (D + 2) (fun v I' L' => ∃ r, v = some (.int r) ∧ Q r I' L') (f + 1) (r.2.2.2 E) J1 L := by
    intro f
    induction f with
    | zero => intro r J1 hf hr hG; have := hG.2; omega
    | succ f ih =>
      intro r J1 hf hr hG hM he
      unfold wX12_either_5
      refine tX12_takes hS hM hG.2 (by decide) (by decide) (fun hc J2 hM2 => ?_) (fun hc => ?_)
      · rw [if_neg (by decide)]
        have q : lvOf (chr tx n r.2.1) = Int32.ofNat 0 := lv_0.mpr hc
        have hin := lv_in (show 0 < 5 by decide) q
        rw [pL_j hr q (by decide)] at he
        have hGj := GD_join (tx := tx) hs hG (show 0 < 5 by decide) hr q
        refine hC (r.2.1 + 1) _ _ hM2 (by omega) (fun qb J3 hM3 => ?_) (fun qb v J3 hF => ?_)
        · have hj1 : (pJoin tx n sub r).1 = true := qb
          have hjv : (pJoin tx n sub r).2.2.2 E = jnd 124 (r.2.2.2 E) ((sub (r.2.1 + 1)).2.2.2 E) := by rw [← hc]; rfl
          have hgr : GR n i (pJoin tx n sub r) ∧ r.2.1 < (pJoin tx n sub r).2.1 := by
            rcases hGj with z | z
            · exact z
            · rw [hj1] at z; exact absurd z.1 (by decide)
          have nxt : ∀ x : Int32, x = (pJoin tx n sub r).2.2.2 E → wX12_either_5 G l (D + 2) (fun v I' L' => ∃ r, v = some (.int r) ∧ Q r I' L') (f + 1) x J3 L := fun x hx => by
            rw [hx]
            exact ih (pJoin tx n sub r) J3 (by omega) hj1 hgr.1 hM3 he
          have e : jnd 124 (r.2.2.2 E) ((sub (r.2.1 + 1)).2.2.2 E) = if r.2.2.2 E = 0 then (if (sub (r.2.1 + 1)).2.2.2 E = 0 then 0 else 1) else 1 := rfl
          rw [e] at hjv
          refine ife (fun z => ife (fun z2 => nxt _ ?_) (fun z2 => nxt _ ?_)) (fun z => nxt _ ?_)
          · rw [hjv, if_pos z, if_pos z2]
          · rw [hjv, if_pos z, if_neg z2]
          · rw [hjv, if_neg z]
        · have hj1 : (pJoin tx n sub r).1 = false := qb
          rw [pL_f hj1] at he
          have nxt : ∀ x : Int32, wX12_either_5 G l (D + 2) (fun v I' L' => ∃ r, v = some (.int r) ∧ Q r I' L') (f + 1) x J3 L := fun x => bad f _ J3 _ hF (by rw [← he]; exact hj1) (by rw [← he]; rfl)
          exact ife (fun z => ife (fun _ => nxt _) (fun _ => nxt _)) (fun z => nxt _)
      · rw [if_pos rfl]
        rw [pL_s (fun z => hc (lv_0.mp z))] at he
        rw [← he] at h1
        exact ri (h1 hr J1 hM)
  refine wX12_either_ok ?_
  unfold wX12_either
  refine hC i J _ h0 hi (fun qa J1 hM => ⟨_, loop 120 (sub i) J1 (by have := ((hs i hi).1 qa).1; omega) qa (hs i hi) hM hR⟩) (fun qa v J1 hF => ?_)
  rw [pL_f qa] at hR
  exact ⟨1, bad 0 _ J1 _ hF (by rw [← hR]; exact qa) (by rw [← hR])⟩
theorem R_E {D : Nat} (hS : Src I tx n) (hs : GD n sub) (hC : RRd G l I L n op E mX12_one (D + 2) sub) : RRd G l I L n op E mX12_either (D + 7) (pE tx n sub) := by
  have c4 := R_prod (D := D + 1) hS hs hC
  have g4 := GD_lev (tx := tx) (lv := 4) hs (by decide)
  have c3 := R_sums (D := D + 2) hS g4 c4
  have g3 := GD_lev (tx := tx) (lv := 3) g4 (by decide)
  have c2 := R_comp (D := D + 3) hS g3 c3
  have g2 := GD_lev (tx := tx) (lv := 2) g3 (by decide)
  have c1 := R_both (D := D + 3) hS g2 c2
  have g1 := GD_lev (tx := tx) (lv := 1) g2 (by decide)
  exact R_either (D := D + 4) hS g1 c1
theorem RD_E (hS : Src I tx n) : RDd G l I L mX12_either (d + 6) := RD_either (RD_both (RD_comp hS (RD_sums (RD_prod hS RD_one))))
end MP

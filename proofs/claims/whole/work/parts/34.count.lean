/-! taken, count -/
def wkN (f : Nat → Int32) : Nat → Nat → Nat
  | 0, _ => 0
  | m + 1, k => (if (f k).toInt ≤ 0 then 0 else 1) + wkN f m (k + 1)
theorem wkN_le (f : Nat → Int32) (m k : Nat) : wkN f m k ≤ m := by
  induction m generalizing k with
  | zero => exact Nat.le_refl 0
  | succ m ih =>
    unfold wkN
    have := ih (k + 1)
    by_cases h : (f k).toInt ≤ 0
    · rw [if_pos h]; omega
    · rw [if_neg h]; omega
theorem wkN_eq (f g : Nat → Int32) (m k : Nat) (h : ∀ i, i < k + m → f i = g i) : wkN f m k = wkN g m k := by
  induction m generalizing k with
  | zero => rfl
  | succ m ih =>
    unfold wkN
    rw [h k (by omega), ih (k + 1) (fun i hi => h i (by omega))]
section CT
variable {LR : jLR} {G : jG} {l : Launch} {d k : Nat} {I : jS} {L : jL} {K : Int32 → Int32 → jS → jL → Prop}
theorem tX5_weakSquares {ic : Nat} {Q : Int32 → jS → jL → Prop} (hic : isIce ic) (h : Q (Int32.ofNat (wkN (I (ic + 2)) 24 0)) I L) : cI G l mX5_weakSquares (d + 1) [.ref ic] I L Q := by
  refine wX5_weakSquares_ok hic ?_
  unfold wX5_weakSquares
  generalize hT : wkN (I (ic + 2)) 24 0 = T at h
  have key : ∀ m k s, k + m = 24 → s + wkN (I (ic + 2)) m k = T → wX5_weakSquares_4 G l d ic (fun v I' L' => ∃ r, v = some (.int r) ∧ Q r I' L') (m + 1) (Int32.ofNat s) (Int32.ofNat k) I L := by
    intro m
    induction m with
    | zero =>
      intro k s hk hs
      have : k = 24 := by omega
      subst this
      unfold wX5_weakSquares_4
      rw [if_pos (by decide)]
      unfold wkN at hs
      rw [← hs] at h
      exact ri h
    | succ m ih =>
      intro k s hk hs
      unfold wX5_weakSquares_4
      rw [if_neg (by rw [zle, zo (by omega), zl_24]; omega)]
      refine ⟨by rw [zin, zo (by omega)]; omega, ?_⟩
      rw [zon (by omega), zsucc, zsucc]
      unfold wkN at hs
      refine ife (fun c => ih (k + 1) s (by omega) ?_) (fun c => ih (k + 1) (s + 1) (by omega) ?_)
      · rw [zle, z0] at c
        rw [if_pos c] at hs
        omega
      · rw [zle, z0] at c
        rw [if_neg c] at hs
        omega
  exact ⟨_, key 24 0 0 (by omega) (by omega)⟩
theorem tX12_weakMany {Q : Int32 → jS → jL → Prop} (h : Q (Int32.ofNat (wkN (I 76) 24 0)) I L) : cI G l mX12_weakMany (d + 1) [.ref 71] I L Q := by
  refine wX12_weakMany_ok ?_
  unfold wX12_weakMany
  generalize hT : wkN (I 76) 24 0 = T at h
  have key : ∀ m k s, k + m = 24 → s + wkN (I 76) m k = T → wX12_weakMany_4 G l d (fun v I' L' => ∃ r, v = some (.int r) ∧ Q r I' L') (m + 1) (Int32.ofNat s) (Int32.ofNat k) I L := by
    intro m
    induction m with
    | zero =>
      intro k s hk hs
      have : k = 24 := by omega
      subst this
      unfold wX12_weakMany_4
      rw [if_pos (by decide)]
      unfold wkN at hs
      rw [← hs] at h
      exact ri h
    | succ m ih =>
      intro k s hk hs
      unfold wX12_weakMany_4
      rw [if_neg (by rw [zle, zo (by omega), zl_24]; omega)]
      refine ⟨by rw [zin, zo (by omega)]; omega, ?_⟩
      rw [zon (by omega), zsucc, zsucc, Int32.add_zero]
      unfold wkN at hs
      refine ife (fun c => ih (k + 1) s (by omega) ?_) (fun c => ih (k + 1) (s + 1) (by omega) ?_)
      · rw [zle, z0] at c
        rw [if_pos c] at hs
        omega
      · rw [zle, z0] at c
        rw [if_neg c] at hs
        omega
  exact ⟨_, key 24 0 0 (by omega) (by omega)⟩
theorem T_count {a : Int32} (h : Inv LR k I L) (hk : ∀ r I' L', Inv LR (k + 1) I' L' → K r r I' L') :
    cI G l mX11_count (d + 9) [.ref 0, .int a] I L (fun r I1 L1 => cI G l mX12_count (d + 9) [.ref 71, .int a] I1 L1 (fun r' I2 L2 => K r r' I2 L2)) := by
  obtain ⟨hP, hC, hI, hT, hR, hD, hG, hA, hS, hM⟩ := id h
  have e24 : wkN (I 76) 24 0 = wkN (I 27) 24 0 := wkN_eq _ _ 24 0 (fun i hi => (hI.1 i (by omega)).1)
  refine two (P := fun r I1 L1 => I1 = I ∧ L1 = L ∧ r = if a = 0 then I 1 1 else if a = 1 then Int32.ofNat (wkN (I 27) 24 0) else if a = 2 then I 17 5 else if a = 3 then I 12 4 else if a = 4 then I 68 2 else if a = 5 then I 68 3 else -1) (fun Q hq => ?_) (fun r I1 L1 hp Q hq => ?_) hk
  · have hq2 := hq _ I L ⟨rfl, rfl, rfl⟩
    refine wX11_count_ok ?_
    unfold wX11_count
    refine ife (fun c0 => ri ?_) (fun c0 => ife (fun c1 => tX5_weakSquares (by unfold isIce; decide) (ri ?_)) (fun c1 => ife (fun c2 => ri ?_) (fun c2 => ife (fun c3 => ri ?_) (fun c3 => ife (fun c4 => ri ?_) (fun c4 => ife (fun c5 => ri ?_) (fun c5 => ri ?_))))))
    · rw [if_pos c0] at hq2; exact hq2
    · rw [if_neg c0, if_pos c1] at hq2; exact hq2
    · rw [if_neg c0, if_neg c1, if_pos c2] at hq2; exact hq2
    · rw [if_neg c0, if_neg c1, if_neg c2, if_pos c3] at hq2; exact hq2
    · rw [if_neg c0, if_neg c1, if_neg c2, if_neg c3, if_pos c4] at hq2; exact hq2
    · rw [if_neg c0, if_neg c1, if_neg c2, if_neg c3, if_neg c4, if_pos c5] at hq2; exact hq2
    · rw [if_neg c0, if_neg c1, if_neg c2, if_neg c3, if_neg c4, if_neg c5] at hq2; exact hq2
  · obtain ⟨rfl, rfl, hr⟩ := hp
    have hq2 := hq _ _ h.up
    refine wX12_count_ok ?_
    unfold wX12_count
    refine ife (fun c0 => ri ?_) (fun c0 => ife (fun c1 => tX12_weakMany (ri ?_)) (fun c1 => ife (fun c2 => ri ?_) (fun c2 => ife (fun c3 => ri ?_) (fun c3 => ife (fun c4 => ri ?_) (fun c4 => ife (fun c5 => ri ?_) (fun c5 => ri ?_))))))
    · rw [if_pos c0] at hr; rw [hP.1, ← hr]; exact hq2
    · rw [if_neg c0, if_pos c1] at hr; rw [e24, ← hr]; exact hq2
    · rw [if_neg c0, if_neg c1, if_pos c2] at hr; rw [hT.1, ← hr]; exact hq2
    · rw [if_neg c0, if_neg c1, if_neg c2, if_pos c3] at hr; rw [hC.1, ← hr]; exact hq2
    · rw [if_neg c0, if_neg c1, if_neg c2, if_neg c3, if_pos c4] at hr; rw [hA.1, ← hr]; exact hq2
    · rw [if_neg c0, if_neg c1, if_neg c2, if_neg c3, if_neg c4, if_pos c5] at hr; rw [hA.2.2.2.1, ← hr]; exact hq2
    · rw [if_neg c0, if_neg c1, if_neg c2, if_neg c3, if_neg c4, if_neg c5] at hr; rw [← hr]; exact hq2
theorem tX0_kindOf {x : Int32} {Q : Int32 → jS → jL → Prop} (hx : 0 ≤ x.toInt ∧ x.toInt < (I 68 2).toInt ∧ x.toInt < 50) (h : Q (I 69 x.toInt.toNat) I L) : cI G l mX0_kindOf (d + 1) [.ref 68, .int x] I L Q := by
  refine wX0_kindOf_ok ?_
  unfold wX0_kindOf
  rw [if_neg (by rw [zlt, z0]; omega), if_neg (by rw [zle]; omega), if_neg (by rw [zle, zl_50]; omega)]
  exact ⟨by rw [zin]; omega, ri h⟩
theorem tX0_kindN {x : Int32} {Q : Int32 → jS → jL → Prop} (hx : x.toInt < 0 ∨ (I 68 2).toInt ≤ x.toInt) (h : Q (-1) I L) : cI G l mX0_kindOf (d + 1) [.ref 68, .int x] I L Q := by
  refine wX0_kindOf_ok ?_
  unfold wX0_kindOf
  refine ife (fun c => ri h) (fun c => ife (fun c2 => ri h) (fun c2 => ?_))
  rw [zlt, z0] at c
  rw [zle] at c2
  omega
theorem tX12_kindOf {x : Int32} {Q : Int32 → jS → jL → Prop} (hx : 0 ≤ x.toInt ∧ x.toInt < 50) (h : Q (I 87 x.toInt.toNat) I L) : cI G l mX12_kindOf (d + 1) [.ref 71, .int x] I L Q :=
  wX12_kindOf_ok ⟨by rw [zin]; omega, ri h⟩
/-- the kind above -/
def abv (x : Nat) : Int := (jsl5.getD x 0).toInt
theorem tX0_above {x : Int32} {Q : Int32 → jS → jL → Prop} (hst : jSt G) (hx : 0 ≤ x.toInt ∧ x.toInt < 8) (h : Q (jsl5.getD x.toInt.toNat 0) I L) : cI G l mX0_above (d + 2) [.int x] I L Q := by
  refine wX0_above_ok ?_
  unfold wX0_above
  refine tX11_isKind (ifz (fun c => absurd hx c) (fun c => ?_))
  rw [hst.2.2.2.2]
  exact ⟨by rw [zin]; omega, ri h⟩
theorem tX12_above {x : Int32} {Q : Int32 → jS → jL → Prop} (hx : 0 < x.toInt ∧ x.toInt < 8) (h : Q (jsl5.getD x.toInt.toNat 0) I L) : cI G l mX12_above (d + 1) [.int x] I L Q := by
  refine wX12_above_ok ?_
  unfold wX12_above
  have hx' : x = 1 ∨ x = 2 ∨ x = 3 ∨ x = 4 ∨ x = 5 ∨ x = 6 ∨ x = 7 := by
    simp only [zeq, zl_1, zl_2, zl_3, zl_4, zl_5, zl_6, zl_7]
    omega
  rcases hx' with rfl | rfl | rfl | rfl | rfl | rfl | rfl
  · exact ri h
  · exact ri h
  · exact ri h
  · exact ri h
  · exact ri h
  · exact ri h
  · exact ri h
/-- whether one kind is k or under it -/
def und (k : Int) : Nat → Int → Bool
  | 0, _ => false
  | m + 1, x => if x < 0 then false else if x = k then true else und k m (abv x.toNat)
theorem abv_lt {x : Int} (h0 : 0 < x) (h8 : x < 8) : 0 ≤ abv x.toNat ∧ abv x.toNat < x := by
  have : x = 1 ∨ x = 2 ∨ x = 3 ∨ x = 4 ∨ x = 5 ∨ x = 6 ∨ x = 7 := by omega
  rcases this with rfl | rfl | rfl | rfl | rfl | rfl | rfl <;> decide
theorem abv_r {x : Int} (h0 : 0 ≤ x) (h8 : x < 8) : -1 ≤ abv x.toNat ∧ abv x.toNat < 8 := by
  have : x = 0 ∨ x = 1 ∨ x = 2 ∨ x = 3 ∨ x = 4 ∨ x = 5 ∨ x = 6 ∨ x = 7 := by omega
  rcases this with rfl | rfl | rfl | rfl | rfl | rfl | rfl | rfl <;> decide
theorem und_m1 {b : Int} (n : Nat) : und b n (-1) = false := by
  cases n with
  | zero => rfl
  | succ n => unfold und; rw [if_pos (by decide)]
theorem taken_58 {Q : Option Value → jS → jL → Prop} {a b : Int32} : ∀ (n : Nat) (x : Int32), 0 ≤ x.toInt → x.toInt ≤ n → n ≤ 7 → (∀ y, (y = b ↔ und b.toInt (n + 1) x.toInt = true) → wX12_taken_75 G l (d + 1) Q a b y I L) → wX12_taken_58 G l (d + 1) Q (n + 1) a b x I L := by
  intro n
  induction n with
  | zero =>
    intro x h0 hn _ h
    have hx0 : x.toInt = 0 := by omega
    unfold wX12_taken_58
    refine ife (fun c => h x ?_) (fun c => ?_)
    · unfold und
      rw [if_neg (by omega), if_pos (by rw [← zeq]; exact c)]
      exact ⟨fun _ => rfl, fun _ => c⟩
    · rw [if_pos (by rw [zle, z0]; omega)]
      refine h x ⟨fun q => absurd q c, fun q => ?_⟩
      unfold und at q
      rw [if_neg (by omega), if_neg (by rw [← zeq]; exact c)] at q
      exact absurd q (by unfold und; decide)
  | succ n ih =>
    intro x h0 hn h7 h
    unfold wX12_taken_58
    refine ife (fun c => h x ?_) (fun c => ?_)
    · unfold und
      rw [if_neg (by omega), if_pos (by rw [← zeq]; exact c)]
      exact ⟨fun _ => rfl, fun _ => c⟩
    · have hu : und b.toInt (n + 1 + 1) x.toInt = und b.toInt (n + 1) (abv x.toInt.toNat) := by
        conv => lhs; unfold und
        rw [if_neg (by omega), if_neg (by rw [← zeq]; exact c)]
      rw [hu] at h
      refine ife (fun c2 => h x ?_) (fun c2 => ?_)
      · rw [zle, z0] at c2
        have hx0 : x.toInt = 0 := by omega
        have : abv x.toInt.toNat = -1 := by rw [hx0]; decide
        rw [this, und_m1]
        exact ⟨fun q => absurd q c, fun q => absurd q (by decide)⟩
      · rw [zle, z0] at c2
        have hl := abv_lt (x := x.toInt) (by omega) (by omega)
        refine tX12_above (by omega) (ih _ ?_ ?_ (by omega) h)
        · exact hl.1
        · have := hl.2
          unfold abv at this
          omega
theorem tX0_isUnder {b v : Int32} {Q : Int32 → jS → jL → Prop} (hst : jSt G) (hv : -1 ≤ v.toInt ∧ v.toInt < 8) (h : Q (b01 (und b.toInt 8 v.toInt = true)) I L) : cI G l mX0_isUnder (d + 3) [.ref 68, .int v, .int b] I L Q := by
  refine wX0_isUnder_ok ?_
  unfold wX0_isUnder
  have key : ∀ m k (x : Int32), k + m = 8 → -1 ≤ x.toInt ∧ x.toInt < 8 → Q (b01 (und b.toInt m x.toInt = true)) I L → wX0_isUnder_5 G l (d + 2) (fun v I' L' => ∃ r, v = some (.int r) ∧ Q r I' L') (m + 1) b x (Int32.ofNat k) I L := by
    intro m
    induction m with
    | zero =>
      intro k x hk hx hq
      have : k = 8 := by omega
      subst this
      unfold wX0_isUnder_5
      rw [if_pos (by decide)]
      rw [b01_neg (by unfold und; decide)] at hq
      exact ri hq
    | succ m ih =>
      intro k x hk hx hq
      unfold wX0_isUnder_5
      rw [if_neg (by rw [zle, zo (by omega), zl_8]; omega)]
      unfold und at hq
      refine ife (fun c => ri ?_) (fun c => ife (fun c2 => ri ?_) (fun c2 => ?_))
      · rw [zlt, z0] at c
        rw [if_pos c, b01_neg (by decide)] at hq
        exact hq
      · rw [zlt, z0] at c
        rw [if_neg c, if_pos (by rw [← zeq]; exact c2), b01_pos rfl] at hq
        exact hq
      · rw [zlt, z0] at c
        rw [if_neg c, if_neg (by rw [← zeq]; exact c2)] at hq
        have hr := abv_r (x := x.toInt) (by omega) hx.2
        refine tX0_above hst (by omega) ?_
        rw [zsucc]
        exact ih (k + 1) _ (by omega) hr hq
  exact ⟨_, key 8 0 v (by omega) hv h⟩
theorem T_taken {a b : Int32} (hst : jSt G) (h : Inv LR k I L) (hk : ∀ r I' L', Inv LR (k + 1) I' L' → K r r I' L') :
    cI G l mX11_taken (d + 9) [.ref 0, .int a, .int b] I L (fun r I1 L1 => cI G l mX12_taken (d + 9) [.ref 71, .int a, .int b] I1 L1 (fun r' I2 L2 => K r r' I2 L2)) := by
  obtain ⟨hP, hC, hI, hT, hR, hD, hG, hA, hS, hM⟩ := id h
  by_cases hx : (0 ≤ a.toInt ∧ a.toInt < 6) ∧ (0 ≤ b.toInt ∧ b.toInt < 8)
  case neg =>
    refine two (P := fun r' I1 L1 => I1 = I ∧ r' = -1 ∧ L1 = L) (fun Q hq => ?_) (fun r' I1 L1 hp Q hq => ?_) hk
    · refine wX11_taken_ok ?_
      unfold wX11_taken
      exact tX11_isShelf (ifz (fun c1 => ri (hq _ _ _ ⟨rfl, rfl, rfl⟩)) (fun c1 => tX11_isKind (ifz (fun c2 => ri (hq _ _ _ ⟨rfl, rfl, rfl⟩)) (fun c2 => absurd ⟨c1, c2⟩ hx))))
    · obtain ⟨rfl, rfl, rfl⟩ := hp
      refine wX12_taken_ok ?_
      unfold wX12_taken
      exact tX12_isShelf (ifz (fun c1 => ri (hq _ _ h.up)) (fun c1 => tX12_win (a := 0) (b := 7) (by decide) (by decide) (ifz (fun c2 => ri (hq _ _ h.up)) (fun c2 => absurd ⟨c1, ⟨by omega, by omega⟩⟩ hx))))
  obtain ⟨hx, hb⟩ := hx
  have hin : vp_in a 6 := by rw [zin]; omega
  have he6 : a.toInt.toNat < 6 := by omega
  obtain ⟨n1, n2, n3, n4⟩ := InvS_neg hS hA.2.1.2 he6
  have hSe := (hS a.toInt.toNat he6).1
  generalize hea : a.toInt.toNat = ea at *
  -- the kind at the shelf, by the reference
  have hkd : 0 ≤ (I 89 ea).toInt → (I 89 ea).toInt < 50 → I 60 ea = I 89 ea ∧ (I 89 ea).toInt < (I 68 2).toInt := fun q1 q2 => by
    rcases hSe with o | o | o
    · rw [o.2.1] at q1; exact absurd q1 (by decide)
    · exact ⟨o.2.1.symm, by rw [o.2.1]; exact o.2.2.2.1⟩
    · omega
  have hb2 := hA.2.1
  have hA3 := hA.2.2.1
  refine two (P := fun r' I1 L1 => I1 = I ∧ L1 = L ∧
    ((r' = -11 ∧ (I 89 ea).toInt < 0) ∨ (r' = -12 ∧ 50 ≤ (I 89 ea).toInt) ∨
     (0 ≤ (I 89 ea).toInt ∧ (I 89 ea).toInt < 50 ∧ r' = if und b.toInt 8 (I 87 (I 89 ea).toInt.toNat).toInt = true then I 87 (I 89 ea).toInt.toNat else -12))) (fun Q hq => ?_) (fun r' I1 L1 hp Q hq => ?_) hk
  · refine wX11_taken_ok ?_
    unfold wX11_taken
    refine tX11_isShelf (ifz (fun c1 => absurd hx c1) (fun _ => tX11_isKind (ifz (fun c1 => absurd hb c1) (fun _ => tX9_isEmpty (ifz (fun c1 => ?_) (fun c1 => ri (hq _ _ _ ⟨rfl, rfl, Or.inl ⟨rfl, ?_⟩⟩)))))))
    · rw [hea] at c1
      have p1 : 0 ≤ (I 89 ea).toInt := by
        have : ¬ (I 89 ea).toInt < 0 := fun q => c1 (Or.inr (n1.mpr q))
        omega
      refine tX9_bodyOn ?_
      rw [if_pos hx, hea]
      by_cases h50 : (I 89 ea).toInt < 50
      · obtain ⟨k1, k2⟩ := hkd p1 h50
        obtain ⟨k3, k4, k5⟩ := hA3 (I 89 ea).toInt.toNat (by omega)
        rw [k1]
        refine tX0_kindOf (by omega) ?_
        rw [← k3]
        rw [← k3] at k4 k5
        refine tX0_isUnder hst (by omega) (ifz (fun c2 => ri (hq _ _ _ ⟨rfl, rfl, Or.inr (Or.inr ⟨p1, h50, ?_⟩)⟩)) (fun c2 => ri (hq _ _ _ ⟨rfl, rfl, Or.inr (Or.inr ⟨p1, h50, ?_⟩)⟩)))
        · rw [if_neg c2]
        · rw [if_pos c2]
      · have k1 : I 60 ea = -1 := by
          rcases hSe with o | o | o
          · exact o.2.2.2.1
          · rw [o.2.1] at h50; omega
          · exact o.2.2.2.1
        rw [k1]
        refine tX0_kindN (Or.inl (by decide)) ?_
        refine tX0_isUnder hst (by decide) ?_
        rw [b01_neg (by rw [show (-1 : Int32).toInt = -1 by decide, und_m1]; decide), if_pos rfl]
        exact ri (hq _ _ _ ⟨rfl, rfl, Or.inr (Or.inl ⟨rfl, by omega⟩)⟩)
    · rcases c1 with q | q
      · exact absurd hx q
      · rw [hea] at q; exact n1.mp q
  · obtain ⟨rfl, rfl, hp⟩ := hp
    refine wX12_taken_ok ?_
    unfold wX12_taken
    refine tX12_isShelf (ifz (fun c1 => absurd hx c1) (fun _ => tX12_win (a := 0) (b := 7) (by decide) (by decide) (ifz (fun c1 => absurd ⟨hb.1, by omega⟩ c1) (fun _ => ⟨hin, ?_⟩))))
    rw [znat, hea]
    refine ife (fun c1 => ife (fun c2 => ?_) (fun c2 => ?_)) (fun c1 => ?_)
    · rw [zle, z0] at c1
      rw [zlt, zl_50] at c2
      rcases hp with ⟨-, q⟩ | ⟨-, q⟩ | ⟨-, -, rfl⟩
      · omega
      · omega
      · obtain ⟨k1, k2⟩ := hkd c1 c2
        obtain ⟨k3, k4, k5⟩ := hA3 (I1 89 ea).toInt.toNat (by omega)
        rw [← k3] at k4 k5
        have hvin : vp_in (I1 89 ea) 50 := by rw [zin]; omega
        refine tX12_kindOf (by omega) ⟨_, taken_58 7 _ k4 (by omega) (by decide) (fun y hy => ?_)⟩
        unfold wX12_taken_75
        refine ife (fun c3 => ⟨hin, ?_⟩) (fun c3 => ?_)
        · rw [znat, hea]
          refine tX12_kindOf (by omega) (ri ?_)
          rw [if_pos (hy.mp c3)] at hq
          exact hq _ _ h.up
        · rw [if_neg (fun q => c3 (hy.mpr q))] at hq
          exact ri (hq _ _ h.up)
    · rw [zle, z0] at c1
      rw [zlt, zl_50] at c2
      rcases hp with ⟨-, q⟩ | ⟨rfl, -⟩ | ⟨-, q, -⟩
      · omega
      · exact ri (hq _ _ h.up)
      · omega
    · rw [zle, z0] at c1
      rcases hp with ⟨rfl, -⟩ | ⟨-, q⟩ | ⟨q, -⟩
      · exact ri (hq _ _ h.up)
      · omega
      · omega
end CT

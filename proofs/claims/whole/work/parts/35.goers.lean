/-! goers -/
def ad (I : jS) (w t p : Int32) : jS := u2 (u2 (u2 (u2 (u2 (u2 (u2 (u2 (u2 I 1 1 (I 1 1 + 1)) 7 (I 1 1).toInt.toNat w) 9 (I 1 1).toInt.toNat t) 10 (I 1 1).toInt.toNat p) 72 (96 + (I 1 1).toInt.toNat) w) 72 (103 + (I 1 1).toInt.toNat) 0) 72 (110 + (I 1 1).toInt.toNat) t) 72 (117 + (I 1 1).toInt.toNat) p) 71 6 (I 1 1 + 1)
def adB (I : jS) (f : Nat → Int32 × Int32 × Int32) : Nat → jS
  | 0 => I
  | k + 1 => ad (adB I f k) (f k).1 (f k).2.1 (f k).2.2
def mixc (X Y : jS) : jS := fun r => if r = 1 ∨ r = 7 ∨ r = 9 ∨ r = 10 then X r else Y r
theorem mixc_self (X : jS) : mixc X X = X := by
  funext r
  unfold mixc
  by_cases h : r = 1 ∨ r = 7 ∨ r = 9 ∨ r = 10
  · rw [if_pos h]
  · rw [if_neg h]
theorem mixc_c {X I : jS} {w t p : Int32} : u2 (u2 (u2 (u2 (mixc X I) 1 1 (X 1 1 + 1)) 7 (X 1 1).toInt.toNat w) 9 (X 1 1).toInt.toNat t) 10 (X 1 1).toInt.toNat p = mixc (ad X w t p) I := by
  funext r j
  by_cases h : r = 1 ∨ r = 7 ∨ r = 9 ∨ r = 10
  · have e : mixc (ad X w t p) I r = ad X w t p r := by unfold mixc; rw [if_pos h]
    have e2 : ∀ j, mixc X I r j = X r j := fun j => by unfold mixc; rw [if_pos h]
    rw [e]
    unfold ad
    simp only [u2_ap, e2]
    rcases h with rfl | rfl | rfl | rfl
    · simp
    · simp
    · simp
    · simp
  · have e : mixc (ad X w t p) I r = I r := by unfold mixc; rw [if_neg h]
    have e2 : ∀ j, mixc X I r j = I r j := fun j => by unfold mixc; rw [if_neg h]
    rw [e]
    simp only [u2_ap, e2]
    rw [if_neg (by omega), if_neg (by omega), if_neg (by omega), if_neg (by omega)]
theorem mixc_m {X Y : jS} {w t p : Int32} (h6 : Y 71 6 = Y 1 1) : u2 (u2 (u2 (u2 (u2 (mixc X Y) 72 (96 + (Y 1 1).toInt.toNat) w) 72 (103 + (Y 1 1).toInt.toNat) 0) 72 (110 + (Y 1 1).toInt.toNat) t) 72 (117 + (Y 1 1).toInt.toNat) p) 71 6 (Y 1 1 + 1) = mixc X (ad Y w t p) := by
  funext r j
  by_cases h : r = 1 ∨ r = 7 ∨ r = 9 ∨ r = 10
  · have e : mixc X (ad Y w t p) r = X r := by unfold mixc; rw [if_pos h]
    have e2 : ∀ j, mixc X Y r j = X r j := fun j => by unfold mixc; rw [if_pos h]
    rw [e]
    simp only [u2_ap, e2]
    rw [if_neg (by omega), if_neg (by omega), if_neg (by omega), if_neg (by omega), if_neg (by omega)]
  · have e : mixc X (ad Y w t p) r = ad Y w t p r := by unfold mixc; rw [if_neg h]
    have e2 : ∀ j, mixc X Y r j = Y r j := fun j => by unfold mixc; rw [if_neg h]
    rw [e]
    unfold ad
    simp only [u2_ap, e2]
    by_cases h71 : r = 71 ∧ j = 6
    · rw [if_pos h71, if_pos h71]
    · rw [if_neg h71, if_neg h71]
      by_cases q1 : r = 72 ∧ j = 117 + (Y 1 1).toInt.toNat
      · rw [if_pos q1, if_pos q1]
      · rw [if_neg q1, if_neg q1]
        by_cases q2 : r = 72 ∧ j = 110 + (Y 1 1).toInt.toNat
        · rw [if_pos q2, if_pos q2]
        · rw [if_neg q2, if_neg q2]
          by_cases q3 : r = 72 ∧ j = 103 + (Y 1 1).toInt.toNat
          · rw [if_pos q3, if_pos q3]
          · rw [if_neg q3, if_neg q3]
            by_cases q4 : r = 72 ∧ j = 96 + (Y 1 1).toInt.toNat
            · rw [if_pos q4, if_pos q4]
            · rw [if_neg q4, if_neg q4, if_neg (by omega), if_neg (by omega), if_neg (by omega), if_neg (by omega)]
section GS
variable {LR : jLR} {G : jG} {l : Launch} {d k : Nat} {I : jS} {L : jL} {K : Int32 → Int32 → jS → jL → Prop}
theorem tX9_byteAt {x y : Int32} {Q : Int32 → jS → jL → Prop} (hx : 0 ≤ x.toInt ∧ x.toInt < 6) (hy : 0 ≤ y.toInt ∧ y.toInt < 60) (h : Q (L (62 + x.toInt.toNat) y.toInt.toNat).toInt32 I L) : cI G l mX9_byteAt (d + 3) [.ref 57, .int x, .int y] I L Q := by
  refine wX9_byteAt_ok ?_
  unfold wX9_byteAt
  refine tX9_get (ri ?_)
  rw [if_pos ⟨hx, hy⟩]
  exact h
/-- the three at a place of a row of bytes -/
def tri (L : jL) (e i : Nat) (k : Nat) : Int32 × Int32 × Int32 := ((L (62 + e) (i + 3 * k)).toInt32, (L (62 + e) (i + 3 * k + 1)).toInt32, (L (62 + e) (i + 3 * k + 2)).toInt32)
def gdT (L : jL) (e i : Nat) (sz g : Int) (k : Nat) : Prop := (i : Int) + 3 * k + 3 ≤ sz ∧ g + k < 7 ∧ okv 4 (tri L e i k).1 ∧ okv 6 (tri L e i k).2.1 ∧ okv 7 (tri L e i k).2.2
theorem adB_g {f : Nat → Int32 × Int32 × Int32} (h0 : 0 ≤ (I 1 1).toInt) : ∀ k : Nat, (I 1 1).toInt + k ≤ 7 → (adB I f k 1 1).toInt = (I 1 1).toInt + k := by
  intro k
  induction k with
  | zero => intro _; unfold adB; omega
  | succ k ih =>
    intro hk
    have := ih (by omega)
    have e : adB I f (k + 1) 1 1 = adB I f k 1 1 + 1 := by
      conv => lhs; unfold adB ad
      simp [u2_ap]
    rw [e, zadd (by rw [z1]; omega) (by rw [z1]; omega), z1]
    omega
theorem adB_Inv {e i : Nat} {sz : Int} (h : Inv LR k I L) : ∀ m : Nat, (∀ j, j < m → gdT L e i sz (I 1 1).toInt j) → Inv LR k (adB I (tri L e i) m) L := by
  intro m
  induction m with
  | zero => intro _; exact h
  | succ m ih =>
    intro hg
    have h1 := ih (fun j hj => hg j (by omega))
    have h2 := hg m (by omega)
    have hb := h.1.2.1
    have h3 := adB_g (f := tri L e i) hb.1 m (by have := h2.2.1; omega)
    exact Inv_add h1 (by rw [h3]; exact h2.2.1) h2.2.2.1 h2.2.2.2.1 h2.2.2.2.2
/-- whether the three at a place are a goer who finds room -/
theorem tX11_comes {x y : Int32} {e i m : Nat} {X : jS} {Q : Int32 → jS → jL → Prop} (hst : jSt G) (hx : x.toInt = e) (he : e < 6) (hy : y.toInt = i + 3 * m) (hi : i + 3 * m + 2 < 60) (hX : 0 ≤ (X 1 1).toInt ∧ (X 1 1).toInt ≤ 7)
    (h1 : ¬ ((X 1 1).toInt < 7 ∧ okv 4 (tri L e i m).1 ∧ okv 6 (tri L e i m).2.1 ∧ okv 7 (tri L e i m).2.2) → Q 0 (mixc X I) L) (h2 : ((X 1 1).toInt < 7 ∧ okv 4 (tri L e i m).1 ∧ okv 6 (tri L e i m).2.1 ∧ okv 7 (tri L e i m).2.2) → Q 1 (mixc (ad X (tri L e i m).1 (tri L e i m).2.1 (tri L e i m).2.2) I) L) : cI G l mX11_comes (d + 4) [.ref 0, .int x, .int y] (mixc X I) L Q := by
  have e11 : mixc X I 1 = X 1 := by unfold mixc; rw [if_pos (by omega)]
  have y1 : (y + 1).toInt = i + 3 * m + 1 := by rw [zadd (by rw [z1, hy]; omega) (by rw [z1, hy]; omega), hy, z1]
  have y2 : (y + 2).toInt = i + 3 * m + 2 := by rw [zadd (by rw [zl_2, hy]; omega) (by rw [zl_2, hy]; omega), hy, zl_2]
  refine wX11_comes_ok ?_
  unfold wX11_comes
  refine tX9_byteAt (by omega) (by omega) (tX9_byteAt (by omega) (by omega) (tX9_byteAt (by omega) (by omega) ?_))
  rw [y1, y2, hy, hx]
  have q0 : ((e : Int)).toNat = e := by omega
  have q1 : ((i : Int) + 3 * m).toNat = i + 3 * m := by omega
  have q2 : ((i : Int) + 3 * m + 1).toNat = i + 3 * m + 1 := by omega
  have q3 : ((i : Int) + 3 * m + 2).toNat = i + 3 * m + 2 := by omega
  rw [q0, q1, q2, q3]
  refine tX7_al (n := 4) hst (by decide) (by decide) okv_4 (ifz (fun c => ri (h1 (fun q => c ((okv_4 _).mp q.2.1)))) (fun c => ?_))
  refine tX7_al (n := 6) hst (by decide) (by decide) okv_6 (ifz (fun c2 => ri (h1 (fun q => c2 ((okv_6 _).mp q.2.2.1)))) (fun c2 => ?_))
  refine tX7_al (n := 7) hst (by decide) (by decide) okv_7 (ifz (fun c3 => ri (h1 (fun q => c3 ((okv_7 _).mp q.2.2.2)))) (fun c3 => ?_))
  refine tX7_add (by rw [e11]; exact hX) (fun q => ?_) (fun q => ?_)
  · rw [if_pos (by decide)]
    rw [e11] at q
    exact ri (h1 (fun z => by omega))
  · rw [e11] at q ⊢
    rw [if_neg (by rw [zlt, z0]; omega), mixc_c]
    exact ri (h2 ⟨q, (okv_4 _).mpr c, (okv_6 _).mpr c2, (okv_7 _).mpr c3⟩)
/-- the class's loop -/
theorem goers_53 {x n : Int32} {e i nn : Nat} {sz : Int} {Q : Option Value → jS → jL → Prop} (hst : jSt G) (hx : x.toInt = e) (he : e < 6) (hn : n.toInt = nn) (hn7 : nn ≤ 7) (hb : 0 ≤ (I 1 1).toInt ∧ (I 1 1).toInt ≤ 7) (hsz : (I 59 e).toInt = sz) (hs60 : 0 ≤ sz ∧ sz ≤ 60) (hi : i ≤ 60)
    (h : ∀ N, N ≤ nn → (∀ j, j < N → gdT L e i sz (I 1 1).toInt j) → (N = nn ∨ ¬ gdT L e i sz (I 1 1).toInt N) → Q (some (.int (Int32.ofNat N))) (mixc (adB I (tri L e i) N) I) L) :
    ∀ m k, k + m = nn → (∀ j, j < k → gdT L e i sz (I 1 1).toInt j) → wX11_goers_53 G l (d + 4) Q (m + 1) x n (Int32.ofNat k) (Int32.ofNat (i + 3 * k)) (mixc (adB I (tri L e i) k) I) L := by
  intro m
  induction m with
  | zero =>
    intro k hk hg
    unfold wX11_goers_53
    rw [if_pos (by rw [zle, zo (by omega)]; omega)]
    exact h k (by omega) hg (Or.inl (by omega))
  | succ m ih =>
    intro k hk hg
    have e59 : mixc (adB I (tri L e i) k) I 59 = I 59 := by unfold mixc; rw [if_neg (by omega)]
    have hxe : x.toInt.toNat = e := by omega
    have hgk : (I 1 1).toInt + k ≤ 7 := by
      by_cases hk0 : k = 0
      · omega
      · have := (hg (k - 1) (by omega)).2.1
        omega
    have hag := adB_g (f := tri L e i) hb.1 k hgk
    unfold wX11_goers_53
    rw [if_neg (by rw [zle, zo (by omega)]; omega)]
    refine tX9_hasSpan (by omega) (by rw [e59, hxe]; omega) (ifz (fun c => ?_) (fun c => ?_))
    · rw [e59, hxe, zo (by omega), zl_3] at c
      exact h k (by omega) hg (Or.inr (fun q => by have := q.1; omega))
    · rw [e59, hxe, zo (by omega), zl_3] at c
      refine tX11_comes (i := i) (m := k) hst hx he (by rw [zo (by omega)]; omega) (by omega) (by rw [hag]; omega) (fun q => ?_) (fun q => ?_)
      · rw [if_pos rfl]
        refine h k (by omega) hg (Or.inr (fun z => q ⟨?_, z.2.2⟩))
        rw [hag]; exact z.2.1
      · rw [if_neg (by decide)]
        have e3 : Int32.ofNat (i + 3 * k) + 3 = Int32.ofNat (i + 3 * (k + 1)) := zof (by rw [zadd (by rw [zo (by omega), zl_3]; omega) (by rw [zo (by omega), zl_3]; omega), zo (by omega), zl_3]; omega)
        have heB : ad (adB I (tri L e i) k) (tri L e i k).1 (tri L e i k).2.1 (tri L e i k).2.2 = adB I (tri L e i) (k + 1) := rfl
        rw [zsucc, e3, heB]
        refine ih (k + 1) (by omega) (fun j hj => ?_)
        by_cases hjk : j < k
        · exact hg j hjk
        · have : j = k := by omega
          subst this
          refine ⟨by omega, ?_, q.2⟩
          have := q.1
          rw [hag] at this
          exact this
theorem b32 {x : Int64} (h : -128 ≤ x.toInt ∧ x.toInt ≤ 127) : x.toInt32.toInt = x.toInt := by
  rw [Int64.toInt_toInt32]
  exact zbmod (by omega) (by omega)
theorem ad_ag {X : jS} {w t p : Int32} : ag [1, 7, 9, 10, 72] [6] X (ad X w t p) := ag_add
theorem adB_90 {f : Nat → Int32 × Int32 × Int32} {k : Nat} : adB I f k 90 = I 90 := by
  induction k with
  | zero => rfl
  | succ k ih => exact (ad_ag.c 90).trans ih
/-- one turn of the reference's loop -/
theorem rg_body {x y n : Int32} {e i q : Nat} {sz : Int} {X Y : jS} {Q : Option Value → jS → jL → Prop} {k69 : Int32 → Int32 → Int32 → Int32 → Int32 → jS → jL → Prop} (hx : x.toInt = e) (he : e < 6) (hy : y.toInt = i) (hq7 : q ≤ 7) (hsz : (Y 90 e).toInt = sz) (hs60 : 0 ≤ sz ∧ sz ≤ 60) {g : Int} (hg0 : 0 ≤ g) (h6 : Y 71 6 = Y 1 1) (hg : (Y 1 1).toInt = g + q)
    (hL : ∀ j, j < 60 → L 91 (60 * e + j) = L (62 + e) j ∧ -128 ≤ (L (62 + e) j).toInt ∧ (L (62 + e) j).toInt ≤ 127)
    (h1 : ¬ gdT L e i sz g q → k69 x y n (Int32.ofNat q) 0 (mixc X Y) L)
    (h2 : gdT L e i sz g q → k69 x y n (Int32.ofNat (q + 1)) 1 (mixc X (ad Y (tri L e i q).1 (tri L e i q).2.1 (tri L e i q).2.2)) L) :
    if (((mixc X Y) 90 x.toNatClampNeg - 3) - 3 * Int32.ofNat q) < y then wX12_goers_110 G l (d + 4) k69 Q x y n (Int32.ofNat q) (mixc X Y) L else if (7 : Int32) ≤ mixc X Y 71 6 then wX12_goers_110 G l (d + 4) k69 Q x y n (Int32.ofNat q) (mixc X Y) L else wX12_goers_111 G l (d + 4) k69 Q x y n (Int32.ofNat q) 1 (mixc X Y) L := by
  have hxe : x.toNatClampNeg = e := by rw [znat]; omega
  have m90 : mixc X Y 90 = Y 90 := by unfold mixc; rw [if_neg (by omega)]
  have m71 : mixc X Y 71 = Y 71 := by unfold mixc; rw [if_neg (by omega)]
  have z3q : (3 * Int32.ofNat q).toInt = 3 * (q : Int) := by rw [zmul (by rw [zo (by omega), zl_3]; omega) (by rw [zo (by omega), zl_3]; omega), zo (by omega), zl_3]
  have zs : ((Y 90 e - 3) - 3 * Int32.ofNat q).toInt = sz - 3 - 3 * q := by
    have e1 : (Y 90 e - 3).toInt = sz - 3 := by rw [zsub (by rw [zl_3]; omega) (by rw [zl_3]; omega), zl_3, hsz]
    rw [zsub (by rw [e1, z3q]; omega) (by rw [e1, z3q]; omega), e1, z3q]
  have no : ¬ gdT L e i sz g q → wX12_goers_110 G l (d + 4) k69 Q x y n (Int32.ofNat q) (mixc X Y) L := fun c => by
    unfold wX12_goers_110 wX12_goers_111 wX12_goers_190 wX12_goers_191
    rw [if_pos rfl, if_pos rfl]
    exact h1 c
  rw [hxe, m90, m71]
  refine ife (fun c => no (fun z => ?_)) (fun c => ife (fun c2 => no (fun z => ?_)) (fun c2 => ?_))
  · rw [zlt, zs, hy] at c
    have := z.1
    omega
  · rw [zle, zl_7, h6, hg] at c2
    have := z.2.1
    omega
  · rw [zlt, zs, hy] at c
    rw [zle, zl_7, h6, hg] at c2
    have zi : (60 * x + y + 3 * Int32.ofNat q).toInt = 60 * (e : Int) + i + (3 * q : Nat) := by
      have := z60b (x := x) (y := y) (z := 3 * Int32.ofNat q) hx he hy (by omega) (m := 3 * q) (by rw [z3q]; omega) (by omega)
      rw [this]
    have zi1 : (60 * x + y + 3 * Int32.ofNat q + 1).toInt = 60 * (e : Int) + i + 3 * q + 1 := by rw [zadd (by rw [zi, z1]; omega) (by rw [zi, z1]; omega), zi, z1]; omega
    have zi2 : (60 * x + y + 3 * Int32.ofNat q + 2).toInt = 60 * (e : Int) + i + 3 * q + 2 := by rw [zadd (by rw [zi, zl_2]; omega) (by rw [zi, zl_2]; omega), zi, zl_2]; omega
    obtain ⟨l1, b1⟩ := hL (i + 3 * q) (by omega)
    obtain ⟨l2, b2⟩ := hL (i + 3 * q + 1) (by omega)
    obtain ⟨l3, b3⟩ := hL (i + 3 * q + 2) (by omega)
    have n1 : (60 * x + y + 3 * Int32.ofNat q).toNatClampNeg = 60 * e + (i + 3 * q) := by rw [znat, zi]; omega
    have n2 : (60 * x + y + 3 * Int32.ofNat q + 1).toNatClampNeg = 60 * e + (i + 3 * q + 1) := by rw [znat, zi1]; omega
    have n3 : (60 * x + y + 3 * Int32.ofNat q + 2).toNatClampNeg = 60 * e + (i + 3 * q + 2) := by rw [znat, zi2]; omega
    unfold wX12_goers_111
    rw [if_neg (show ¬ (1 : Int32) = 0 by decide), n1, n2, n3, l1]
    unfold wX12_goers_190 wX12_goers_191
    simp only [if_true, if_neg (show ¬ (1 : Int32) = 0 by decide)]
    have i1 : vp_in (60 * x + y + 3 * Int32.ofNat q) 360 := by rw [zin, zi]; omega
    have i2 : vp_in (60 * x + y + 3 * Int32.ofNat q + 1) 360 := by rw [zin, zi1]; omega
    have i3 : vp_in (60 * x + y + 3 * Int32.ofNat q + 2) 360 := by rw [zin, zi2]; omega
    refine ⟨i1, tX12_within (ifz (fun d1 => h1 (fun z => d1 ?_)) (fun d1 => ⟨i2, tX12_within (ifz (fun d2 => h1 (fun z => d2 ?_)) (fun d2 => ⟨i3, tX12_within (ifz (fun d3 => h1 (fun z => d3 ?_)) (fun d3 => ⟨i1, i2, i3, ?_⟩))⟩))⟩))⟩
    · have := (okv_4 _).mp z.2.2.1
      unfold tri at this
      rw [b32 b1] at this
      exact this
    · have := (okv_6 _).mp z.2.2.2.1
      unfold tri at this
      rw [b32 b2] at this
      rw [l2]
      exact this
    · have := (okv_7 _).mp z.2.2.2.2
      unfold tri at this
      rw [b32 b3] at this
      rw [l3]
      exact this
    · rw [n1, n2, n3, l1, l2, l3]
      rw [l2] at d2
      rw [l3] at d3
      have hgd : gdT L e i sz g q := ⟨by omega, by omega, (okv_4 _).mpr (by unfold tri; rw [b32 b1]; exact d1), (okv_6 _).mpr (by unfold tri; rw [b32 b2]; exact d2), (okv_7 _).mpr (by unfold tri; rw [b32 b3]; exact d3)⟩
      refine tX12_adds (by rw [m71, h6, hg]; omega) ?_
      rw [m71, h6, mixc_m h6, zsucc]
      exact h2 hgd
/-- the reference's loop -/
theorem rgoers_69 {x y n : Int32} {e i nn N : Nat} {sz : Int} {Q : Option Value → jS → jL → Prop} (hx : x.toInt = e) (he : e < 6) (hy : y.toInt = i) (hn : n.toInt = nn) (hn7 : nn ≤ 7) (hinv : Inv LR k I L) (hsz : (I 90 e).toInt = sz) (hs60 : 0 ≤ sz ∧ sz ≤ 60)
    (hL : ∀ j, j < 60 → L 91 (60 * e + j) = L (62 + e) j ∧ -128 ≤ (L (62 + e) j).toInt ∧ (L (62 + e) j).toInt ≤ 127)
    (hN : N ≤ nn) (hgd : ∀ j, j < N → gdT L e i sz (I 1 1).toInt j) (hst : N = nn ∨ ¬ gdT L e i sz (I 1 1).toInt N)
    (h : Q (some (.int (Int32.ofNat N))) (adB I (tri L e i) N) L) :
    ∀ m q, q + m = N → wX12_goers_69 G l (d + 4) Q (m + 2) x y n (Int32.ofNat q) 1 (mixc (adB I (tri L e i) N) (adB I (tri L e i) q)) L := by
  have hxe : x.toNatClampNeg = e := by rw [znat]; omega
  have hb := hinv.1.2.1
  intro m
  have pre : ∀ q, q ≤ N → (I 1 1).toInt + q ≤ 7 := fun q hq => by
    by_cases h0 : q = 0
    · omega
    · have := (hgd (q - 1) (by omega)).2.1
      omega
  have hin : vp_in x 6 := by rw [zin]; omega
  have hJ := fun q (hq : q ≤ N) => adB_Inv (k := k) (e := e) (i := i) (sz := sz) hinv q (fun j hj => hgd j (by omega))
  have hfin : ∀ m, wX12_goers_69 G l (d + 4) Q (m + 1) x y n (Int32.ofNat N) 0 (mixc (adB I (tri L e i) N) (adB I (tri L e i) N)) L := fun m => by
    unfold wX12_goers_69
    rw [if_pos rfl, mixc_self]
    exact h
  induction m with
  | zero =>
    intro q hq
    have : q = N := by omega
    subst this
    unfold wX12_goers_69
    rw [if_neg (by decide)]
    refine ife (fun c => by rw [mixc_self]; exact h) (fun c => ⟨hin, ?_⟩)
    rw [zle, zo (by omega)] at c
    refine rg_body hx he hy (by omega) (by rw [adB_90]; exact hsz) hs60 hb.1 (hJ q (Nat.le_refl q)).1.1 (adB_g hb.1 q (pre q (Nat.le_refl q))) hL (fun _ => hfin 0) (fun z => ?_)
    rcases hst with r | r
    · omega
    · exact absurd z r
  | succ m ih =>
    intro q hq
    unfold wX12_goers_69
    rw [if_neg (by decide), if_neg (by rw [zle, zo (by omega)]; omega)]
    refine ⟨hin, rg_body hx he hy (by omega) (by rw [adB_90]; exact hsz) hs60 hb.1 (hJ q (by omega)).1.1 (adB_g hb.1 q (pre q (by omega))) hL (fun z => absurd (hgd q (by omega)) z) (fun _ => ih (q + 1) (by omega))⟩
theorem T_goers {a b c : Int32} (hst : jSt G) (h : Inv LR k I L) (hk : ∀ r I' L', Inv LR (k + 1) I' L' → K r r I' L') :
    cI G l mX11_goers (d + 9) [.ref 0, .int a, .int b, .int c] I L (fun r I1 L1 => cI G l mX12_goers (d + 9) [.ref 71, .int a, .int b, .int c] I1 L1 (fun r' I2 L2 => K r r' I2 L2)) := by
  obtain ⟨hP, hC, hI, hT, hR, hD, hG, hA, hS, hM⟩ := id h
  by_cases hx : (0 ≤ a.toInt ∧ a.toInt < 6) ∧ (1 ≤ c.toInt ∧ c.toInt ≤ 7)
  case neg =>
    refine two (P := fun r' I1 L1 => I1 = I ∧ r' = -1 ∧ L1 = L) (fun Q hq => ?_) (fun r' I1 L1 hp Q hq => ?_) hk
    · refine wX11_goers_ok ?_
      unfold wX11_goers
      have hz := hq _ _ _ ⟨rfl, rfl, rfl⟩
      refine tX11_isShelf (ifz (fun c1 => ri hz) (fun c1 => ife (fun c2 => ri hz) (fun c2 => ife (fun c3 => ?_) (fun c3 => ri hz))))
      rw [zlt, z1] at c2
      rw [zle, zl_7] at c3
      exact absurd ⟨c1, by omega, by omega⟩ hx
    · obtain ⟨rfl, rfl, rfl⟩ := hp
      refine wX12_goers_ok ?_
      unfold wX12_goers
      exact tX12_isShelf (ifz (fun c1 => ri (hq _ _ h.up)) (fun c1 => tX12_win (a := 1) (b := 7) (by decide) (by decide) (ifz (fun c2 => ri (hq _ _ h.up)) (fun c2 => absurd ⟨c1, c2⟩ hx))))
  obtain ⟨hx, hn⟩ := hx
  have hin : vp_in a 6 := by rw [zin]; omega
  have he6 : a.toInt.toNat < 6 := by omega
  obtain ⟨n1, n2, n3, n4⟩ := InvS_neg hS hA.2.1.2 he6
  have hSe := (hS a.toInt.toNat he6).1
  have hit := fun i => InvS_it (j := i) hS he6
  generalize hea : a.toInt.toNat = ea at *
  have hxe : a.toInt = ea := by omega
  have hgN : c.toInt = (c.toInt.toNat : Nat) := by omega
  generalize hcn : c.toInt.toNat = nn at *
  have hby : I 58 ea = 0 → ∀ j, j < 60 → L 91 (60 * ea + j) = L (62 + ea) j ∧ -128 ≤ (L (62 + ea) j).toInt ∧ (L (62 + ea) j).toInt ≤ 127 := fun z j hj => by
    refine ⟨hit j (by rw [z]; decide) hj, ?_⟩
    rcases hSe with o | o | o
    · rw [o.1] at z; exact absurd z (by decide)
    · rw [o.1] at z; exact absurd z (by decide)
    · exact o.2.2.2.2.2.2.2 z j hj
  -- the loops' own part
  by_cases hrow : I 58 ea = 0 ∧ 0 ≤ b.toInt ∧ b.toInt ≤ 60
  case pos =>
    obtain ⟨h0, hb0, hb6⟩ := hrow
    have s1 : 0 ≤ (I 58 ea).toInt := by rw [h0]; decide
    have t1 := n3 s1
    have p50 := n4.mp h0
    refine two (P := fun r' I1 L1 => L1 = L ∧ ∃ N, N ≤ nn ∧ (∀ j, j < N → gdT L ea b.toInt.toNat (I 59 ea).toInt (I 1 1).toInt j) ∧ (N = nn ∨ ¬ gdT L ea b.toInt.toNat (I 59 ea).toInt (I 1 1).toInt N) ∧ r' = Int32.ofNat N ∧ I1 = mixc (adB I (tri L ea b.toInt.toNat) N) I) (fun Q hq => ?_) (fun r' I1 L1 hp Q hq => ?_) hk
    · refine wX11_goers_ok ?_
      unfold wX11_goers
      refine tX11_isShelf (ifz (fun c1 => absurd hx c1) (fun c1 => ?_))
      rw [if_neg (by rw [zlt, z1]; omega), if_pos (by rw [zle, zl_7]; omega)]
      refine tX9_isEmpty (ifz (fun c2 => ?_) (fun c2 => ?_))
      · refine tX9_isBytes (ifz (fun c3 => absurd ⟨hx, by rw [hea]; exact h0⟩ c3) (fun c3 => ?_))
        have f := goers_53 (G := G) (l := l) (d := d + 4) (I := I) (L := L) (x := a) (n := c) (e := ea) (i := b.toInt.toNat) (nn := nn) (sz := (I 59 ea).toInt) (Q := fun v I' L' => ∃ r, v = some (.int r) ∧ Q r I' L') hst hxe he6 hgN (by omega) hP.2.1 rfl t1.2.2.2 (by omega) (fun N q1 q2 q3 => ri (hq _ _ _ ⟨rfl, N, q1, q2, q3, rfl, rfl⟩)) nn 0 (by omega) (fun j hj => by omega)
        have eb : Int32.ofNat (b.toInt.toNat + 3 * 0) = b := (zof (by omega)).symm
        have e0 : mixc (adB I (tri L ea b.toInt.toNat) 0) I = I := mixc_self I
        rw [eb, e0] at f
        exact ⟨_, f⟩
      · rcases c2 with q | q
        · exact absurd hx q
        · rw [hea, h0] at q; exact absurd q (by decide)
    · obtain ⟨rfl, N, q1, q2, q3, rfl, rfl⟩ := hp
      have f := rgoers_69 (G := G) (l := l) (d := d + 4) (I := I) (L := L1) (k := k) (LR := LR) (x := a) (y := b) (n := c) (e := ea) (i := b.toInt.toNat) (nn := nn) (N := N) (sz := (I 59 ea).toInt) (Q := fun v I' L' => ∃ r, v = some (.int r) ∧ Q r I' L') hxe he6 (by omega) hgN (by omega) h (by rw [t1.2.2.1]) t1.2.2.2 (hby h0) q1 q2 q3 (ri (hq _ _ (adB_Inv h N q2).up)) N 0 (by omega)
      have e0 : adB I (tri L1 ea b.toInt.toNat) 0 = I := rfl
      rw [e0] at f
      have e89 : mixc (adB I (tri L1 ea b.toInt.toNat) N) I 89 = I 89 := by unfold mixc; rw [if_neg (by omega)]
      refine wX12_goers_ok ?_
      unfold wX12_goers
      refine tX12_isShelf (ifz (fun c1 => absurd hx c1) (fun c1 => tX12_win (a := 1) (b := 7) (by decide) (by decide) (ifz (fun c2 => absurd hn c2) (fun c2 => ⟨hin, ?_⟩))))
      rw [znat, hea, e89, if_neg (by rw [zlt, z0]; omega), if_pos (by rw [zeq, zl_50]; omega)]
      unfold wX12_goers_44
      refine ⟨hin, ?_⟩
      rw [znat, hea, e89, if_pos (by rw [zeq, zl_50]; omega), if_neg (by rw [zlt, z0]; omega)]
      exact ⟨_, f⟩
  case neg =>
    -- nobody comes
    have t1 := fun z => n3 z
    refine two (P := fun r' I1 L1 => L1 = L ∧ I1 = I ∧ ((r' = 0 ∧ ((I 89 ea).toInt < 0 ∨ (I 89 ea).toInt = 50)) ∨ (r' = -12 ∧ 0 ≤ (I 89 ea).toInt ∧ (I 89 ea).toInt ≠ 50))) (fun Q hq => ?_) (fun r' I1 L1 hp Q hq => ?_) hk
    · refine wX11_goers_ok ?_
      unfold wX11_goers
      refine tX11_isShelf (ifz (fun c1 => absurd hx c1) (fun c1 => ?_))
      rw [if_neg (by rw [zlt, z1]; omega), if_pos (by rw [zle, zl_7]; omega)]
      refine tX9_isEmpty (ifz (fun c2 => ?_) (fun c2 => ri (hq _ _ _ ⟨rfl, rfl, Or.inl ⟨rfl, Or.inl ?_⟩⟩)))
      · rw [hea] at c2
        refine tX9_isBytes (ifz (fun c3 => ri (hq _ _ _ ⟨rfl, rfl, Or.inr ⟨rfl, ?_, fun z => c3 ⟨hx, by rw [hea]; exact n4.mpr z⟩⟩⟩)) (fun c3 => ?_))
        · have : ¬ (I 89 ea).toInt < 0 := fun q => c2 (Or.inr (n1.mpr q))
          omega
        · rw [hea] at c3
          have t2 := n3 (by rw [c3.2]; decide)
          refine ⟨1, ?_⟩
          unfold wX11_goers_53
          rw [if_neg (by rw [zle, z0]; omega)]
          refine tX9_hasSpan hx (by rw [hea]; omega) (ifz (fun c4 => ri (hq _ _ _ ⟨rfl, rfl, Or.inl ⟨rfl, Or.inr (n4.mp c3.2)⟩⟩)) (fun c4 => ?_))
          rw [hea, zl_3] at c4
          exact absurd ⟨c3.2, by omega, by omega⟩ hrow
      · rcases c2 with q | q
        · exact absurd hx q
        · rw [hea] at q; exact n1.mp q
    · obtain ⟨rfl, rfl, hp⟩ := hp
      refine wX12_goers_ok ?_
      unfold wX12_goers
      refine tX12_isShelf (ifz (fun c1 => absurd hx c1) (fun c1 => tX12_win (a := 1) (b := 7) (by decide) (by decide) (ifz (fun c2 => absurd hn c2) (fun c2 => ⟨hin, ?_⟩))))
      rw [znat, hea]
      have zero : ((I1 89 ea).toInt < 0 ∨ (I1 89 ea).toInt = 50) → wX12_goers_44 G l (d + 8) (fun v I' L' => ∃ r, v = some (.int r) ∧ Q r I' L') a b c I1 L1 := fun z => by
        have hr : r' = 0 := by
          rcases hp with ⟨q, -⟩ | ⟨-, q1, q2⟩
          · exact q
          · omega
        subst hr
        have stop : ∀ m, wX12_goers_69 G l (d + 8) (fun v I' L' => ∃ r, v = some (.int r) ∧ Q r I' L') (m + 1) a b c 0 0 I1 L1 := fun m => by
          unfold wX12_goers_69
          rw [if_pos rfl]
          exact ri (hq _ _ h.up)
        unfold wX12_goers_44
        refine ⟨hin, ?_⟩
        rw [znat, hea]
        refine ife (fun c3 => ife (fun c4 => ⟨_, stop 0⟩) (fun c4 => ⟨2, ?_⟩)) (fun c3 => ⟨_, stop 0⟩)
        rw [zeq, zl_50] at c3
        rw [zlt, z0] at c4
        have t2 := n3 (n2.mpr (by omega))
        have h60 : ¬ b.toInt ≤ 60 := fun q => hrow ⟨n4.mpr c3, by omega, q⟩
        unfold wX12_goers_69
        rw [if_neg (by decide), if_neg (by rw [zle, z0]; omega)]
        refine ⟨hin, ?_⟩
        rw [znat, hea, if_pos ?_]
        · unfold wX12_goers_110 wX12_goers_111 wX12_goers_190 wX12_goers_191
          rw [if_pos rfl, if_pos rfl]
          exact stop 0
        · have e1 : (I1 90 ea - 3).toInt = (I1 90 ea).toInt - 3 := by rw [zsub (by rw [zl_3, t2.2.2.1]; omega) (by rw [zl_3, t2.2.2.1]; omega), zl_3]
          have e2 : (3 * (0 : Int32)).toInt = 0 := by decide
          rw [zlt, zsub (by rw [e1, e2, t2.2.2.1]; omega) (by rw [e1, e2, t2.2.2.1]; omega), e1, e2, t2.2.2.1]
          omega
      refine ife (fun c3 => zero (Or.inl ?_)) (fun c3 => ife (fun c4 => zero (Or.inr ?_)) (fun c4 => ?_))
      · rw [zlt, z0] at c3; exact c3
      · rw [zeq, zl_50] at c4; exact c4
      · rw [zlt, z0] at c3
        rw [zeq, zl_50] at c4
        rcases hp with ⟨-, q⟩ | ⟨rfl, -⟩
        · omega
        · exact ri (hq _ _ h.up)
end GS

/-! act: the reference -/
section A2
variable {LR : jLR} {G : jG} {l : Launch} {d k : Nat} {I J : jS} {L : jL} {Q : Int32 → jS → jL → Prop} {Qv : jS → jL → Prop} {n : Int32} {o : Nat} {t : List Int32} {K : Int32 → Int32 → jS → jL → Prop}
def ActM (I J : jS) (n : Int32) (o : Nat) (t : List Int32) : Prop := ag [88] [46, 47, 48] I J ∧ J 71 47 = Int32.ofNat o ∧ J 71 48 = n ∧ Tr (J 71 46) (J 88) t
theorem tX12_begins {x : Int32} (h0 : ActM I J n o t) (ht : t.length ≤ 1000) (h : ∀ J', ActM I J' n o (t ++ [x]) → Qv J' L) : cV G l mX12_begins (d + 1) [.ref 71, .int x] J L Qv := by
  obtain ⟨ha, h2, h4, hT⟩ := h0
  refine wX12_begins_ok (Q := fun v I' L' => v = none ∧ Qv I' L') ?_
  unfold wX12_begins wX12_begins_19
  refine ife (fun q => ⟨rfl, h _ ⟨agm ha (by decide), ?_, ?_, ?_⟩⟩) (fun q => ⟨?_, rfl, h _ ⟨agm (agu ha (by decide) (by decide)) (by decide), ?_, ?_, ?_⟩⟩)
  · rw [u2i (by decide)]; exact h2
  · rw [u2i (by decide)]; exact h4
  · rw [zle, zl_24, hT.1] at q
    rw [u2e, u2_ne 88 (by decide)]
    exact Tr_snoc hT ht (fun i => by rw [if_neg (by omega)])
  · rw [zle, zl_24, hT.1] at q
    rw [zin, hT.1]; omega
  · rw [u2i (by decide), u2n (by decide)]; exact h2
  · rw [u2i (by decide), u2n (by decide)]; exact h4
  · rw [zle, zl_24, hT.1] at q
    have e : (J 71 46).toNatClampNeg = t.length := by rw [znat, hT.1]; omega
    have e3 : (u2 J 88 ((J 71 46).toNatClampNeg) x) 71 46 = J 71 46 := u2n (by decide)
    rw [u2e, e3, u2_ne 88 (by decide), e]
    refine Tr_snoc hT ht (fun i => ?_)
    rw [u2_ap]
    by_cases z : i = t.length
    · rw [if_pos ⟨rfl, z⟩, if_pos ⟨by omega, z⟩]
    · rw [if_neg (fun w => z w.2), if_neg (fun w => z w.2)]
theorem ofz {x : Int32} {k : Nat} (h : x.toInt = k) : x = Int32.ofNat k := zof h
theorem m_g0 {x : Int32} (hA : ActM I J n o t) (ht : t.length ≤ 1000) (h : ∀ J', ActM I J' n o (t ++ [1]) → Q (x + n) J' L) : cI G l mX12_goesAs (d + 2) [.ref 71, .int 0, .int x] J L Q := by
  refine wX12_goesAs_ok ?_
  unfold wX12_goesAs
  rw [if_neg (by decide), if_neg (by decide), if_neg (by decide), if_neg (by decide)]
  refine tX12_begins hA ht (fun J' hJ' => ri ?_)
  rw [hJ'.2.2.1]
  exact h J' hJ'
theorem m_g {x1 x : Int32} {k : Nat} (h1 : x1.toInt = k) (hk : k < 8) (hA : ActM I J n o t) (ht : t.length ≤ 900) (h : ∀ J', ActM I J' n o (t ++ gT k) → Q (gV n k x) J' L) : cI G l mX12_goesAs (d + 3) [.ref 71, .int x1, .int x] J L Q := by
  have b20 : gT k = [20, 1] → gV n k x = x + n + 3 → wX12_goesAs_16 G l (d + 2) (fun v I' L' => ∃ r, v = some (.int r) ∧ Q r I' L') x J L := fun hT hV => by
    unfold wX12_goesAs_16
    refine tX12_begins hA (by omega) (fun J' hJ' => m_g0 hJ' (by rw [List.length_append]; simp; omega) (fun J2 hJ2 => ri ?_))
    rw [hT, hV] at h
    rw [aps] at hJ2
    exact h J2 hJ2
  have b1 : gT k = [1] → gV n k x = x + n → cV G l mX12_begins (d + 2) [.ref 71, .int 1] J L (fun I1 L1 => ∃ r, some (Value.int (x + I1 71 48)) = some (.int r) ∧ Q r I1 L1) := fun hT hV => by
    refine tX12_begins hA (by omega) (fun J' hJ' => ri ?_)
    rw [hJ'.2.2.1]
    rw [hT, hV] at h
    exact h J' hJ'
  refine wX12_goesAs_ok ?_
  unfold wX12_goesAs
  rw [ofz h1]
  have h1 : k = 0 ∨ k = 1 ∨ k = 2 ∨ k = 3 ∨ k = 4 ∨ k = 5 ∨ k = 6 ∨ k = 7 := by omega
  rcases h1 with rfl | rfl | rfl | rfl | rfl | rfl | rfl | rfl
  · rw [if_neg (by decide), if_neg (by decide), if_neg (by decide), if_neg (by decide)]; exact b1 rfl rfl
  · rw [if_pos (by decide)]; exact b20 rfl rfl
  · rw [if_neg (by decide), if_neg (by decide), if_neg (by decide), if_neg (by decide)]; exact b1 rfl rfl
  · rw [if_neg (by decide), if_neg (by decide), if_neg (by decide), if_neg (by decide)]; exact b1 rfl rfl
  · rw [if_neg (by decide), if_pos (by decide)]; exact b20 rfl rfl
  · rw [if_neg (by decide), if_neg (by decide), if_neg (by decide), if_neg (by decide)]; exact b1 rfl rfl
  · rw [if_neg (by decide), if_neg (by decide), if_neg (by decide), if_pos (by decide)]
    refine tX12_begins hA (by omega) (fun J' hJ' => m_g0 hJ' (by rw [List.length_append]; simp; omega) (fun J2 hJ2 => ri ?_))
    rw [aps] at hJ2
    exact h J2 hJ2
  · rw [if_neg (by decide), if_neg (by decide), if_pos (by decide)]; exact b20 rfl rfl
theorem m_11 {x1 x : Int32} (hk : x1 = 1 ∨ x1 = 2) (hA : ActM I J n o t) (ht : t.length ≤ 1000) (h : ∀ J', ActM I J' n o (t ++ [11]) → Q (x ^^^ n) J' L) : cI G l mX12_waitsAs (d + 2) [.ref 71, .int x1, .int x] J L Q := by
  refine wX12_waitsAs_ok ?_
  unfold wX12_waitsAs
  have : ¬ x1 = 3 ∧ ¬ x1 = 5 ∧ ¬ x1 = 4 ∧ ¬ x1 = 7 := by rcases hk with rfl | rfl <;> decide
  rw [if_neg this.1, if_neg this.2.1, if_neg this.2.2.1, if_neg this.2.2.2]
  refine tX12_begins hA ht (fun J' hJ' => ri ?_)
  rw [hJ'.2.2.1]
  exact h J' hJ'
theorem m_w {x1 x : Int32} {k : Nat} (h1 : x1.toInt = k) (hk : k < 8) (hok : o < 8) (hA : ActM I J n o t) (ht : t.length ≤ 800) (h : ∀ J', ActM I J' n o (t ++ wT o k) → Q (wV n o k x) J' L) : cI G l mX12_waitsAs (d + 4) [.ref 71, .int x1, .int x] J L Q := by
  have b40 : wT o k = [40, 11] → wV n o k x = (x ^^^ n) * 3 → wX12_waitsAs_10 G l (d + 3) (fun v I' L' => ∃ r, v = some (.int r) ∧ Q r I' L') x J L := fun hT hV => by
    unfold wX12_waitsAs_10
    refine tX12_begins hA (by omega) (fun J' hJ' => m_11 (d := d + 1) (Or.inr rfl) hJ' (by rw [List.length_append]; simp; omega) (fun J2 hJ2 => ri ?_))
    rw [hT, hV] at h
    rw [aps] at hJ2
    exact h J2 hJ2
  have b50 : wT o k = [50, 11] ++ gT o → wV n o k x = (x ^^^ n) - gV n o 2 → wX12_waitsAs_36 G l (d + 3) (fun v I' L' => ∃ r, v = some (.int r) ∧ Q r I' L') x J L := fun hT hV => by
    unfold wX12_waitsAs_36
    refine tX12_begins hA (by omega) (fun J' hJ' => m_11 (d := d + 1) (Or.inl rfl) hJ' (by rw [List.length_append]; simp; omega) (fun J2 hJ2 => ?_))
    rw [hJ2.2.1]
    refine m_g (k := o) (zo (by omega)) hok hJ2 (by rw [List.length_append, List.length_append]; simp; omega) (fun J3 hJ3 => ri ?_)
    rw [hT, hV] at h
    rw [aps, List.append_assoc] at hJ3
    exact h J3 hJ3
  have b11 : wT o k = [11] → wV n o k x = x ^^^ n → cV G l mX12_begins (d + 3) [.ref 71, .int 11] J L (fun I1 L1 => ∃ r, some (Value.int (x ^^^ I1 71 48)) = some (.int r) ∧ Q r I1 L1) := fun hT hV => by
    refine tX12_begins hA (by omega) (fun J' hJ' => ri ?_)
    rw [hJ'.2.2.1]
    rw [hT, hV] at h
    exact h J' hJ'
  refine wX12_waitsAs_ok ?_
  unfold wX12_waitsAs
  rw [ofz h1]
  have h1 : k = 0 ∨ k = 1 ∨ k = 2 ∨ k = 3 ∨ k = 4 ∨ k = 5 ∨ k = 6 ∨ k = 7 := by omega
  rcases h1 with rfl | rfl | rfl | rfl | rfl | rfl | rfl | rfl
  · rw [if_neg (by decide), if_neg (by decide), if_neg (by decide), if_neg (by decide)]; exact b11 rfl rfl
  · rw [if_neg (by decide), if_neg (by decide), if_neg (by decide), if_neg (by decide)]; exact b11 rfl rfl
  · rw [if_neg (by decide), if_neg (by decide), if_neg (by decide), if_neg (by decide)]; exact b11 rfl rfl
  · rw [if_pos (by decide)]; exact b40 rfl rfl
  · rw [if_neg (by decide), if_neg (by decide), if_pos (by decide)]; exact b50 rfl rfl
  · rw [if_neg (by decide), if_pos (by decide)]; exact b40 rfl rfl
  · rw [if_neg (by decide), if_neg (by decide), if_neg (by decide), if_neg (by decide)]; exact b11 rfl rfl
  · rw [if_neg (by decide), if_neg (by decide), if_neg (by decide), if_pos (by decide)]; exact b50 rfl rfl
theorem m_10 {x1 x : Int32} (hk : x1 = 0 ∨ x1 = 4) (hok : o < 8) (hA : ActM I J n o t) (ht : t.length ≤ 850) (h : ∀ J', ActM I J' n o (t ++ ([10] ++ gT o)) → Q (gV n o x * 2) J' L) : cI G l mX12_bearsAs (d + 4) [.ref 71, .int x1, .int x] J L Q := by
  refine wX12_bearsAs_ok ?_
  unfold wX12_bearsAs
  have : ¬ x1 = 3 ∧ ¬ x1 = 5 ∧ ¬ x1 = 2 ∧ ¬ x1 = 7 := by rcases hk with rfl | rfl <;> decide
  rw [if_neg this.1, if_neg this.2.1, if_neg this.2.2.1, if_neg this.2.2.2]
  refine tX12_begins hA (by omega) (fun J' hJ' => ?_)
  rw [hJ'.2.1]
  refine m_g (k := o) (zo (by omega)) hok hJ' (by rw [List.length_append]; simp; omega) (fun J2 hJ2 => ri ?_)
  rw [List.append_assoc] at hJ2
  exact h J2 hJ2
theorem m_30 {x : Int32} (hok : o < 8) (hA : ActM I J n o t) (ht : t.length ≤ 840) (h : ∀ J', ActM I J' n o (t ++ ([30, 10] ++ gT o)) → Q (-(gV n o x * 2)) J' L) : cI G l mX12_bearsAs (d + 5) [.ref 71, .int 2, .int x] J L Q := by
  refine wX12_bearsAs_ok ?_
  unfold wX12_bearsAs
  rw [if_neg (by decide), if_neg (by decide), if_pos (by decide)]
  refine tX12_begins hA (by omega) (fun J' hJ' => m_10 (Or.inl rfl) hok hJ' (by rw [List.length_append]; simp; omega) (fun J2 hJ2 => ri ?_))
  rw [List.append_assoc] at hJ2
  exact h J2 hJ2
theorem m_b {x1 x : Int32} {k : Nat} (h1 : x1.toInt = k) (hk : k < 8) (hok : o < 8) (hA : ActM I J n o t) (ht : t.length ≤ 700) (h : ∀ J', ActM I J' n o (t ++ bT o k) → Q (bV n o k x) J' L) : cI G l mX12_bearsAs (d + 6) [.ref 71, .int x1, .int x] J L Q := by
  have b41 : bT o k = [41, 30, 10] ++ gT o → bV n o k x = -(gV n o (x + 1) * 2) → wX12_bearsAs_10 G l (d + 5) (fun v I' L' => ∃ r, v = some (.int r) ∧ Q r I' L') x J L := fun hT hV => by
    unfold wX12_bearsAs_10
    refine tX12_begins hA (by omega) (fun J' hJ' => m_30 hok hJ' (by rw [List.length_append]; simp; omega) (fun J2 hJ2 => ri ?_))
    rw [hT, hV] at h
    rw [List.append_assoc] at hJ2
    exact h J2 hJ2
  have b10 : bT o k = [10] ++ gT o → bV n o k x = gV n o x * 2 → cV G l mX12_begins (d + 5) [.ref 71, .int 10] J L (fun I1 L1 => cI G l mX12_goesAs (d + 5) [.ref 71, .int (I1 71 47), .int x] I1 L1 (fun r2 I2 L2 => ∃ r, some (Value.int (r2 * 2)) = some (.int r) ∧ Q r I2 L2)) := fun hT hV => by
    refine tX12_begins hA (by omega) (fun J' hJ' => ?_)
    rw [hJ'.2.1]
    refine m_g (d := d + 2) (k := o) (zo (by omega)) hok hJ' (by rw [List.length_append]; simp; omega) (fun J2 hJ2 => ri ?_)
    rw [hT, hV] at h
    rw [List.append_assoc] at hJ2
    exact h J2 hJ2
  refine wX12_bearsAs_ok ?_
  unfold wX12_bearsAs
  rw [ofz h1]
  have h1 : k = 0 ∨ k = 1 ∨ k = 2 ∨ k = 3 ∨ k = 4 ∨ k = 5 ∨ k = 6 ∨ k = 7 := by omega
  rcases h1 with rfl | rfl | rfl | rfl | rfl | rfl | rfl | rfl
  · rw [if_neg (by decide), if_neg (by decide), if_neg (by decide), if_neg (by decide)]; exact b10 rfl rfl
  · rw [if_neg (by decide), if_neg (by decide), if_neg (by decide), if_neg (by decide)]; exact b10 rfl rfl
  · rw [if_neg (by decide), if_neg (by decide), if_pos (by decide)]
    refine tX12_begins hA (by omega) (fun J' hJ' => m_10 (d := d + 1) (Or.inl rfl) hok hJ' (by rw [List.length_append]; simp; omega) (fun J2 hJ2 => ri ?_))
    rw [List.append_assoc] at hJ2
    exact h J2 hJ2
  · rw [if_pos (by decide)]; exact b41 rfl rfl
  · rw [if_neg (by decide), if_neg (by decide), if_neg (by decide), if_neg (by decide)]; exact b10 rfl rfl
  · rw [if_neg (by decide), if_pos (by decide)]; exact b41 rfl rfl
  · rw [if_neg (by decide), if_neg (by decide), if_neg (by decide), if_neg (by decide)]; exact b10 rfl rfl
  · rw [if_neg (by decide), if_neg (by decide), if_neg (by decide), if_pos (by decide)]
    have hgl := gT_l (k := o)
    refine tX12_begins hA (by omega) (fun J' hJ' => m_10 (d := d + 1) (Or.inr rfl) hok hJ' (by rw [List.length_append]; simp; omega) (fun J2 hJ2 => ?_))
    rw [hJ2.2.1]
    refine m_w (d := d + 1) (k := o) (zo (by omega)) hok hok hJ2 (by simp only [List.length_append]; simp; omega) (fun J3 hJ3 => ri ?_)
    have e : t ++ [80] ++ ([10] ++ gT o) ++ wT o o = t ++ ([80, 10] ++ gT o ++ wT o o) := by simp
    rw [e] at hJ3
    exact h J3 hJ3
theorem m_2 {x1 x : Int32} (hk : ¬ x1 = 5 ∧ ¬ x1 = 7) (hok : o < 8) (hA : ActM I J n o t) (ht : t.length ≤ 600) (h : ∀ J', ActM I J' n o (t ++ ([2] ++ bT o o ++ wT o o)) → Q (bV n o o x - wV n o o 1) J' L) : cI G l mX12_tellsAs (d + 7) [.ref 71, .int x1, .int x] J L Q := by
  have hbl := bT_l (o := o) (k := o)
  refine wX12_tellsAs_ok ?_
  unfold wX12_tellsAs
  rw [if_neg hk.1, if_neg hk.2]
  refine tX12_begins hA (by omega) (fun J' hJ' => ?_)
  rw [hJ'.2.1]
  refine m_b (k := o) (zo (by omega)) hok hok hJ' (by rw [List.length_append]; simp; omega) (fun J2 hJ2 => ?_)
  rw [hJ2.2.1]
  refine m_w (d := d + 2) (k := o) (zo (by omega)) hok hok hJ2 (by simp only [List.length_append]; simp; omega) (fun J3 hJ3 => ri ?_)
  have e : t ++ [2] ++ bT o o ++ wT o o = t ++ ([2] ++ bT o o ++ wT o o) := by simp
  rw [e] at hJ3
  exact h J3 hJ3
theorem m_t {x1 x : Int32} {k : Nat} (h1 : x1.toInt = k) (hk : k < 8) (hok : o < 8) (hA : ActM I J n o t) (ht : t.length ≤ 500) (h : ∀ J', ActM I J' n o (t ++ tT o k) → Q (tV n o k x) J' L) : cI G l mX12_tellsAs (d + 8) [.ref 71, .int x1, .int x] J L Q := by
  by_cases k5 : k = 5
  · subst k5
    refine wX12_tellsAs_ok ?_
    unfold wX12_tellsAs
    rw [ofz h1, if_pos (by decide)]
    refine tX12_begins hA (by omega) (fun J' hJ' => m_2 (by decide) hok hJ' (by rw [List.length_append]; simp; omega) (fun J2 hJ2 => ri ?_))
    have e : t ++ [60] ++ ([2] ++ bT o o ++ wT o o) = t ++ ([60, 2] ++ bT o o ++ wT o o) := by simp
    rw [e] at hJ2
    exact h J2 hJ2
  · by_cases k7 : k = 7
    · subst k7
      refine wX12_tellsAs_ok ?_
      unfold wX12_tellsAs
      rw [ofz h1, if_neg (by decide), if_pos (by decide)]
      refine tX12_begins hA (by omega) (fun J' hJ' => m_2 (by decide) hok hJ' (by rw [List.length_append]; simp; omega) (fun J2 hJ2 => ri ?_))
      have e : t ++ [81] ++ ([2] ++ bT o o ++ wT o o) = t ++ ([81, 2] ++ bT o o ++ wT o o) := by simp
      rw [e] at hJ2
      exact h J2 hJ2
    · have hT : tT o k = [2] ++ bT o o ++ wT o o := by unfold tT; rw [if_neg k5, if_neg k7]
      have hV : tV n o k x = bV n o o x - wV n o o 1 := by unfold tV; rw [if_neg k5, if_neg k7]
      rw [hT, hV] at h
      exact m_2 (d := d + 1) ⟨fun z => by rw [zeq, h1, zl_5] at z; omega, fun z => by rw [zeq, h1, zl_7] at z; omega⟩ hok hA (by omega) h
def aV (n : Int32) (o : Nat) (a : Int) (x : Int32) : Int32 := if a = 0 then gV n o x else if a = 1 then bV n o o x else if a = 2 then wV n o o x else if a = 3 then tV n o o x else 0
def aT (o : Nat) (a : Int) : List Int32 := if a = 0 then gT o else if a = 1 then bT o o else if a = 2 then wT o o else if a = 3 then tT o o else []
theorem T_act {a b c : Int32} (hst : jSt G) (h : Inv LR k I L) (hk : ∀ r I' L', Inv LR (k + 1) I' L' → K r r I' L') :
    cI G l mX11_act (d + 19) [.ref 0, .int a, .int b, .int c] I L (fun r I1 L1 => cI G l mX12_act (d + 19) [.ref 71, .int a, .int b, .int c] I1 L1 (fun r' I2 L2 => K r r' I2 L2)) := by
  obtain ⟨hP, hC, hI, hT, hR, hD, hG, hA, hS, hM⟩ := id h
  obtain ⟨a1, a2, a3, a4, a5, a6⟩ := hA
  refine two (P := fun r I1 L1 => L1 = L ∧ ag [68, 70] [] I I1 ∧ I1 68 2 = I 68 2 ∧ ((¬ (0 ≤ a.toInt ∧ a.toInt < (I 68 2).toInt) ∧ r = 0 ∧ Tr (I1 68 3) (I1 70) []) ∨ ((0 ≤ a.toInt ∧ a.toInt < (I 68 2).toInt) ∧ r = aV a (I 69 a.toInt.toNat).toInt.toNat b.toInt c ∧ Tr (I1 68 3) (I1 70) (aT (I 69 a.toInt.toNat).toInt.toNat b.toInt)))) (fun Q hq => ?_) (fun r I1 L1 hp Q hq => ?_) hk
  · refine wX11_act_ok ?_
    unfold wX11_act
    refine wX0_start_ok ?_
    unfold wX0_start
    have hu : ag [68, 70] [] I (u2 I 68 3 0) := agu ag.rf (by decide) (by decide)
    have f2 : (u2 I 68 3 0) 68 2 = I 68 2 := u2i (by decide)
    have t0 : Tr ((u2 I 68 3 0) 68 3) ((u2 I 68 3 0) 70) [] := ⟨by rw [u2e]; rfl, fun i hi => by simp at hi⟩
    by_cases c1 : 0 ≤ a.toInt ∧ a.toInt < (I 68 2).toInt
    · refine tX0_kindOf (by rw [f2]; omega) ?_
      rw [show (u2 I 68 3 0) 69 = I 69 from u2_ne 69 (by decide)]
      obtain ⟨-, k1, k2⟩ := a3 a.toInt.toNat (by omega)
      rw [if_neg (by rw [zlt, z0]; omega)]
      have hkk : (I 69 a.toInt.toNat).toInt = ((I 69 a.toInt.toNat).toInt.toNat : Nat) := by omega
      have hk8 : (I 69 a.toInt.toNat).toInt.toNat < 8 := by omega
      have fin : ∀ (V : Int32) (T : List Int32) J', V = aV a (I 69 a.toInt.toNat).toInt.toNat b.toInt c → T = aT (I 69 a.toInt.toNat).toInt.toNat b.toInt → ActC I J' a ([] ++ T) → ∃ r, some (Value.int V) = some (.int r) ∧ (fun r1 I1 L1 => ∃ r, some (Value.int r1) = some (.int r) ∧ Q r I1 L1) r J' L := fun V T J' hV hT hJ' => by
        refine ⟨_, rfl, ri (hq _ _ _ ⟨rfl, hJ'.1, hJ'.2.1, Or.inr ⟨c1, hV, ?_⟩⟩)⟩
        rw [← hT]
        exact hJ'.2.2.2
      have hA0 : ActC I (u2 (u2 I 68 3 0) 68 4 a) a [] := by
        refine ⟨agu hu (by decide) (by decide), ?_, u2e, ?_⟩
        · rw [u2i (by decide)]; exact f2
        · rw [u2i (by decide), u2_ne 70 (by decide)]; exact t0
      generalize (I 69 a.toInt.toNat) = kd at *
      generalize hkn : kd.toInt.toNat = kn at *
      refine ife (fun c2 => ?_) (fun c2 => ife (fun c3 => ?_) (fun c3 => ?_))
      · rw [zlt, z0] at c2
        refine ⟨_, rfl, ri (hq _ _ _ ⟨rfl, hu, f2, Or.inr ⟨c1, ?_, ?_⟩⟩)⟩
        · unfold aV; rw [if_neg (by omega), if_neg (by omega), if_neg (by omega), if_neg (by omega)]
        · unfold aT; rw [if_neg (by omega), if_neg (by omega), if_neg (by omega), if_neg (by omega)]; exact t0
      · rw [zlt, z0] at c2
        rw [zlt, zl_4] at c3
        have h4 : b.toInt = 0 ∨ b.toInt = 1 ∨ b.toInt = 2 ∨ b.toInt = 3 := by omega
        rcases h4 with q | q | q | q
        · have hb : b = 0 := by rw [zeq, q]; rfl
          subst hb
          refine run_g (d := d + 12) hst hkk hk8 (e := 0) (by decide) (by omega) hA0 (by simp) (fun J' hJ' => fin _ _ J' ?_ ?_ hJ')
          · rfl
          · rfl
        · have hb : b = 1 := by rw [zeq, q]; rfl
          subst hb
          refine run_b (d := d + 9) hst hkk hk8 hkk hk8 (e := 0) (by decide) (by omega) hA0 (by simp) (fun J' hJ' => fin _ _ J' ?_ ?_ hJ')
          · rfl
          · rfl
        · have hb : b = 2 := by rw [zeq, q]; rfl
          subst hb
          refine run_w (d := d + 11) hst hkk hk8 hkk hk8 (e := 0) (by decide) (by omega) hA0 (by simp) (fun J' hJ' => fin _ _ J' ?_ ?_ hJ')
          · rfl
          · rfl
        · have hb : b = 3 := by rw [zeq, q]; rfl
          subst hb
          refine run_t (d := d + 7) hst hkk hk8 hkk hk8 (e := 0) (by decide) (by omega) hA0 (by simp) (fun J' hJ' => fin _ _ J' ?_ ?_ hJ')
          · rfl
          · rfl
      · rw [zlt, z0] at c2
        rw [zlt, zl_4] at c3
        refine ⟨_, rfl, ri (hq _ _ _ ⟨rfl, hu, f2, Or.inr ⟨c1, ?_, ?_⟩⟩)⟩
        · unfold aV; rw [if_neg (by omega), if_neg (by omega), if_neg (by omega), if_neg (by omega)]
        · unfold aT; rw [if_neg (by omega), if_neg (by omega), if_neg (by omega), if_neg (by omega)]; exact t0
    · refine tX0_kindN (by rw [f2]; omega) ?_
      rw [if_pos (by decide)]
      exact ⟨_, rfl, ri (hq _ _ _ ⟨rfl, hu, f2, Or.inl ⟨c1, rfl, t0⟩⟩)⟩
  · obtain ⟨rfl, ha, e2, hp⟩ := hp
    -- the state behind both
    have fin : ∀ J' T, ag [88] [46, 47, 48] I1 J' → Tr (I1 68 3) (I1 70) T → Tr (J' 71 46) (J' 88) T → Inv LR (k + 1) J' L1 := fun J' T haJ t1 t2 => by
      have hall : ag [68, 70, 88] [46, 47, 48] I J' := ag.th ha haJ
      have f68 : J' 68 = I1 68 := haJ.c 68
      have f70 : J' 70 = I1 70 := haJ.c 70
      refine ⟨hP.ag hall rfl, hC.ag hall rfl (by rw [hall.c 1]; omega), hI.ag hall rfl (by omega), hT.ag hall rfl, LR_ag hR hall rfl, hD.ag hall rfl, hG.ag hall rfl (by omega), ?_, ?_, hM.ag hall rfl rfl⟩
      · refine ⟨by rw [f68, e2, hall.m 43]; exact a1, by rw [f68, e2]; exact a2, fun j hj => ?_, ?_, ?_, fun j hj hj2 => ?_⟩
        · rw [f68, e2] at hj
          rw [hall.c 87, hall.c 69]; exact a3 j hj
        · rw [f68, zeq, t1.1, t2.1]
        · rw [f68, t1.1]; omega
        · rw [f68, t1.1] at hj
          rw [f70, t1.2 j (by omega) hj2, t2.2 j (by omega) hj2]
      · intro e he
        have hs := hS e he
        rw [hall.c 58, hall.c 89, hall.c 59, hall.c 60, hall.c 90, f68, e2]
        exact hs
    have hu : ag [88] [46, 47, 48] I1 (u2 I1 71 46 0) := agm ag.rf (by decide)
    have t0 : Tr ((u2 I1 71 46 0) 71 46) ((u2 I1 71 46 0) 88) [] := ⟨by rw [u2e]; rfl, fun i hi => by simp at hi⟩
    have f43 : (u2 I1 71 46 0) 71 43 = I 68 2 := by rw [u2i (by decide), ha.m 43]; exact a1
    refine wX12_act_ok ?_
    unfold wX12_act
    refine tX12_isBody (by rw [f43]; exact a2.1) ?_
    rw [f43]
    refine ifz (fun c1 => ?_) (fun c1 => ?_)
    · rcases hp with ⟨-, rfl, t1⟩ | ⟨q, -⟩
      · exact ri (hq _ _ (fin _ [] hu t1 t0))
      · exact absurd q c1
    · rcases hp with ⟨q, -⟩ | ⟨-, hr, t1⟩
      · exact absurd c1 q
      · refine ⟨by rw [zin]; omega, ?_⟩
        obtain ⟨k0, k1, k2⟩ := a3 a.toInt.toNat (by omega)
        have e87 : (u2 I1 71 46 0) 87 a.toNatClampNeg = I 69 a.toInt.toNat := by rw [u2n (by decide), ha.c 87, znat]; exact k0
        rw [e87]
        have hkk : (I 69 a.toInt.toNat).toInt = ((I 69 a.toInt.toNat).toInt.toNat : Nat) := by omega
        have hk8 : (I 69 a.toInt.toNat).toInt.toNat < 8 := by omega
        generalize (I 69 a.toInt.toNat) = kd at *
        have hkd : kd = Int32.ofNat kd.toInt.toNat := ofz hkk
        have hA0 : ActM I1 (u2 (u2 (u2 I1 71 46 0) 71 47 kd) 71 48 a) a kd.toInt.toNat [] := by
          refine ⟨agm (agm hu (by decide)) (by decide), ?_, u2e, ?_⟩
          · rw [u2i (by decide), u2e]; exact hkd
          · rw [u2i (by decide), u2i (by decide), u2_ne 88 (by decide), u2_ne 88 (by decide)]; exact t0
        have fin2 : ∀ (V : Int32) (T : List Int32) J', V = aV a kd.toInt.toNat b.toInt c → T = aT kd.toInt.toNat b.toInt → ActM I1 J' a kd.toInt.toNat ([] ++ T) → ∃ r, some (Value.int V) = some (.int r) ∧ Q r J' L1 := fun V T J' hV hT' hJ' => by
          refine ri ?_
          rw [hV, ← hr]
          exact hq _ _ (fin J' T hJ'.1 (by rw [hT']; exact t1) hJ'.2.2.2)
        refine ife (fun q => ?_) (fun q0 => ife (fun q => ?_) (fun q1 => ife (fun q => ?_) (fun q2 => ife (fun q => ?_) (fun q3 => ?_))))
        · subst q
          exact m_g (d := d + 15) hkk hk8 hA0 (by simp) (fun J' hJ' => fin2 _ _ J' rfl rfl hJ')
        · subst q
          exact m_b (d := d + 12) hkk hk8 hk8 hA0 (by simp) (fun J' hJ' => fin2 _ _ J' rfl rfl hJ')
        · subst q
          exact m_w (d := d + 14) hkk hk8 hk8 hA0 (by simp) (fun J' hJ' => fin2 _ _ J' rfl rfl hJ')
        · subst q
          exact m_t (d := d + 10) hkk hk8 hk8 hA0 (by simp) (fun J' hJ' => fin2 _ _ J' rfl rfl hJ')
        · rw [zeq, z0] at q0
          rw [zeq, z1] at q1
          rw [zeq, zl_2] at q2
          rw [zeq, zl_3] at q3
          refine fin2 0 [] _ ?_ ?_ hA0
          · unfold aV; rw [if_neg q0, if_neg q1, if_neg q2, if_neg q3]
          · unfold aT; rw [if_neg q0, if_neg q1, if_neg q2, if_neg q3]
end A2

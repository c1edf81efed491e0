/-! row, put, element -/
def flR (L : jL) (b a m : Nat) : jL := fun r => if r = b then (fun i => if a ≤ i ∧ i < a + m then 0 else L r i) else L r
theorem flR_ap {L : jL} {b a m r i : Nat} : flR L b a m r i = if r = b ∧ a ≤ i ∧ i < a + m then 0 else L r i := by
  unfold flR
  by_cases h : r = b
  · subst h
    by_cases hi : a ≤ i ∧ i < a + m
    · simp [hi]
    · rw [if_pos rfl, if_neg hi, if_neg (fun q => hi q.2)]
  · simp [h]
theorem flL_ap {L : jL} {b n r i : Nat} {v : Int64} : flL L b n v r i = if r = b ∧ i < n then v else L r i := by
  unfold flL
  by_cases h : r = b
  · subst h
    by_cases hi : i < n
    · simp [hi]
    · simp [hi]
  · simp [h]
theorem z60 {x : Int32} {e : Nat} (h : x.toInt = e) (he : e < 6) : (60 * x).toInt = 60 * (e : Int) := by
  rw [zmul (by rw [zl_60, h]; omega) (by rw [zl_60, h]; omega), zl_60, h]
theorem z60a {x y : Int32} {e j : Nat} (h : x.toInt = e) (he : e < 6) (hy : y.toInt = j) (hj : j ≤ 1000) : (60 * x + y).toInt = 60 * (e : Int) + j := by
  rw [zadd (by rw [z60 h he, hy]; omega) (by rw [z60 h he, hy]; omega), z60 h he, hy]
section RW
variable {LR : jLR} {G : jG} {l : Launch} {d k : Nat} {I : jS} {L : jL} {K : Int32 → Int32 → jS → jL → Prop} {KJ : Int64 → Int64 → jS → jL → Prop}
theorem row_57 {Q : Option Value → jS → jL → Prop} {x : Int32} {e : Nat} (hx : x.toInt = e) (he : e < 6) (h : Q (some (.int 1)) I (flR L 91 (60 * e) 60)) : ∀ m k, k + m = 60 → wX12_row_57 G l d Q (m + 1) x (Int32.ofNat (60 * e + k)) I (flR L 91 (60 * e) k) := by
  intro m
  have e1 : (60 * x + 60).toInt = 60 * (e : Int) + 60 := z60a hx he (by decide) (by decide)
  induction m with
  | zero =>
    intro k hk
    have : k = 60 := by omega
    subst this
    unfold wX12_row_57
    rw [if_pos (by rw [zle, e1, zo (by omega)]; omega)]
    exact h
  | succ m ih =>
    intro k hk
    unfold wX12_row_57
    rw [if_neg (by rw [zle, e1, zo (by omega)]; omega)]
    refine ⟨by rw [zin, zo (by omega)]; omega, ?_⟩
    rw [zon (by omega), zsucc]
    have e2 : u2L (flR L 91 (60 * e) k) 91 (60 * e + k) 0 = flR L 91 (60 * e) (k + 1) := by
      funext r i
      rw [u2L_ap, flR_ap, flR_ap]
      by_cases h1 : r = 91 ∧ i = 60 * e + k
      · rw [if_pos h1, if_pos (by omega)]
      · rw [if_neg h1]
        by_cases h2 : r = 91 ∧ 60 * e ≤ i ∧ i < 60 * e + k
        · rw [if_pos h2, if_pos (by omega)]
        · rw [if_neg h2, if_neg (by omega)]
    rw [e2]
    exact ih (k + 1) (by omega)
theorem T_row {a b c : Int32} (h : Inv LR k I L) (hk : ∀ r I' L', Inv LR (k + 1) I' L' → K r r I' L') :
    cI G l mX11_row (d + 9) [.ref 0, .int a, .int b, .int c] I L (fun r I1 L1 => cI G l mX12_row (d + 9) [.ref 71, .int a, .int b, .int c] I1 L1 (fun r' I2 L2 => K r r' I2 L2)) := by
  obtain ⟨hP, hC, hI, hT, hR, hD, hG, hA, hS, hM⟩ := id h
  refine two (P := fun r I1 L1 => (¬ ((0 ≤ a.toInt ∧ a.toInt < 6) ∧ (0 ≤ b.toInt ∧ b.toInt ≤ 4) ∧ c.toInt ≤ 60) ∧ r = -1 ∧ I1 = I ∧ L1 = L) ∨ (((0 ≤ a.toInt ∧ a.toInt < 6) ∧ (0 ≤ b.toInt ∧ b.toInt ≤ 4) ∧ c.toInt ≤ 60) ∧ c.toInt < 0 ∧ r = -14 ∧ I1 = I ∧ L1 = L) ∨ (((0 ≤ a.toInt ∧ a.toInt < 6) ∧ (0 ≤ b.toInt ∧ b.toInt ≤ 4) ∧ c.toInt ≤ 60) ∧ 0 ≤ c.toInt ∧ r = 1 ∧ I1 = u2 (u2 (u2 I 58 a.toInt.toNat b) 60 a.toInt.toNat (-1)) 59 a.toInt.toNat c ∧ L1 = flL L (62 + a.toInt.toNat) 60 0)) (fun Q hq => ?_) (fun r I1 L1 hp Q hq => ?_) hk
  · refine wX11_row_ok ?_
    unfold wX11_row
    refine tX11_isShelf (ifz (fun c1 => ri (hq _ _ _ (Or.inl ⟨fun q => c1 q.1, rfl, rfl, rfl⟩))) (fun c1 => ife (fun c2 => ri (hq _ _ _ (Or.inl ⟨fun q => ?_, rfl, rfl, rfl⟩))) (fun c2 => ife (fun c3 => ri (hq _ _ _ (Or.inl ⟨fun q => ?_, rfl, rfl, rfl⟩))) (fun c3 => ife (fun c4 => ife (fun c5 => ?_) (fun c5 => ri (hq _ _ _ (Or.inr (Or.inl ⟨?_, ?_, rfl, rfl, rfl⟩))))) (fun c4 => ri (hq _ _ _ (Or.inl ⟨fun q => ?_, rfl, rfl, rfl⟩)))))))
    all_goals simp only [zlt, zle, z0, zl_4, zl_60] at *
    · omega
    · omega
    · have hin : vp_in a 6 := by rw [zin]; omega
      have hgo := hq 1 _ _ (Or.inr (Or.inr ⟨⟨c1, ⟨by omega, by omega⟩, c4⟩, c5, rfl, rfl, rfl⟩))
      refine wX9_holdRow_ok (Q := fun v I' L' => v = none ∧ _) ?_
      unfold wX9_holdRow
      refine tX11_isShelf (ifz (fun q => absurd c1 q) (fun _ => ?_))
      rw [if_neg (by rw [zlt, z0]; omega), if_pos (by rw [zle, zl_60]; omega)]
      refine ⟨hin, hin, ?_⟩
      exact c_fillL (n := 60) (ks_row61 (jlt hin)) (by decide) ⟨rfl, ri hgo⟩
    · omega
    · omega
    · omega
  · refine wX12_row_ok ?_
    unfold wX12_row
    refine tX12_isShelf (ifz (fun c1 => ?_) (fun c1 => ?_))
    · rcases hp with ⟨-, rfl, rfl, rfl⟩ | ⟨q, -⟩ | ⟨q, -⟩
      · exact ri (hq _ _ h.up)
      · exact absurd q.1 c1
      · exact absurd q.1 c1
    · refine tX12_win (a := 0) (b := 4) (by decide) (by decide) (ifz (fun c2 => ?_) (fun c2 => ?_))
      · rcases hp with ⟨-, rfl, rfl, rfl⟩ | ⟨q, -⟩ | ⟨q, -⟩
        · exact ri (hq _ _ h.up)
        · exact absurd q.2.1 c2
        · exact absurd q.2.1 c2
      · refine ife (fun c4 => ife (fun c5 => ?_) (fun c5 => ?_)) (fun c4 => ?_)
        · rw [zle, zl_60] at c4
          rw [zle, z0] at c5
          rcases hp with ⟨q, -⟩ | ⟨-, q, -⟩ | ⟨-, -, rfl, rfl, rfl⟩
          · exact absurd ⟨c1, c2, c4⟩ q
          · omega
          · have hin : vp_in a 6 := by rw [zin]; omega
            refine ⟨hin, 61, ?_⟩
            have hx : a.toInt = (a.toInt.toNat : Int) := by omega
            have he6 : a.toInt.toNat < 6 := by omega
            have h60 : 60 * a = Int32.ofNat (60 * a.toInt.toNat + 0) := zof (by rw [z60 hx he6]; omega)
            have fin := row_57 (G := G) (l := l) (d := d + 8) (L := flL L (62 + a.toInt.toNat) 60 0) (I := u2 (u2 (u2 (u2 (u2 I 58 a.toInt.toNat b) 60 a.toInt.toNat (-1)) 59 a.toInt.toNat c) 89 a.toInt.toNat (50 + b)) 90 a.toInt.toNat c) (Q := fun v I' L' => ∃ r, v = some (.int r) ∧ Q r I' L') hx he6 ?_ 60 0 (by omega)
            · have e0 : ∀ J : jL, flR J 91 (60 * a.toInt.toNat) 0 = J := fun J => by
                funext r i
                rw [flR_ap, if_neg (by omega)]
              rw [e0, ← h60] at fin
              exact fin
            · refine ri (hq _ _ ?_)
              generalize he : a.toInt.toNat = e at *
              have ha : ag [58, 59, 60, 89, 90] [] I (u2 (u2 (u2 (u2 (u2 I 58 e b) 60 e (-1)) 59 e c) 89 e (50 + b)) 90 e c) := agu (agu (agu (agu (agu ag.rf (by decide) (by decide)) (by decide) (by decide)) (by decide) (by decide)) (by decide) (by decide)) (by decide) (by decide)
              refine ⟨hP.ag ha rfl, hC.ag ha rfl (by rw [ha.1 1 (by decide) (by decide)]; omega), hI.ag ha rfl (by omega), hT.ag ha rfl, LR_ag hR ha rfl, hD.ag ha rfl, hG.ag ha rfl (by omega), hA.ag ha rfl, ?_, hM.ag ha rfl rfl⟩
              refine InvS_one hS he6 (fun r hr j hj => ?_) (by rw [ha.1 68 (by decide) (by decide)]) (fun j hj1 hj2 => ?_) (fun j q hj1 hj2 hq1 => ?_) ?_
              · simp only [u2_ap]
                simp [hj]
              · funext i
                rw [flR_ap, if_neg (by omega), flL_ap, if_neg (by omega)]
              · rw [flR_ap, if_neg (by omega), flL_ap, if_neg (by omega)]
              · have e58 : (u2 (u2 (u2 (u2 (u2 I 58 e b) 60 e (-1)) 59 e c) 89 e (50 + b)) 90 e c) 58 e = b := by simp [u2_ap]
                have e59 : (u2 (u2 (u2 (u2 (u2 I 58 e b) 60 e (-1)) 59 e c) 89 e (50 + b)) 90 e c) 59 e = c := by simp [u2_ap]
                have e60 : (u2 (u2 (u2 (u2 (u2 I 58 e b) 60 e (-1)) 59 e c) 89 e (50 + b)) 90 e c) 60 e = -1 := by simp [u2_ap]
                have e89 : (u2 (u2 (u2 (u2 (u2 I 58 e b) 60 e (-1)) 59 e c) 89 e (50 + b)) 90 e c) 89 e = 50 + b := by simp [u2_ap]
                have e90 : (u2 (u2 (u2 (u2 (u2 I 58 e b) 60 e (-1)) 59 e c) 89 e (50 + b)) 90 e c) 90 e = c := by simp [u2_ap]
                rw [e58, e59, e60, e89, e90]
                have ez : ∀ j, j < 60 → flR (flL L (62 + e) 60 0) 91 (60 * e) 60 (62 + e) j = 0 := fun j hj => by
                  rw [flR_ap, if_neg (by omega), flL_ap, if_pos ⟨rfl, hj⟩]
                refine ⟨Or.inr (Or.inr ⟨c2.1, c2.2, ?_, rfl, rfl, c5, c4, fun _ j hj => ?_⟩), fun _ j hj => ?_⟩
                · rw [zadd (by rw [zl_50]; omega) (by rw [zl_50]; omega), zl_50]
                · rw [ez j hj]; decide
                · rw [ez j hj, flR_ap, if_pos (by omega)]
        · rw [zle, zl_60] at c4
          rw [zle, z0] at c5
          rcases hp with ⟨q, -⟩ | ⟨-, q, rfl, rfl, rfl⟩ | ⟨-, q, -⟩
          · exact absurd ⟨c1, c2, c4⟩ q
          · exact ri (hq _ _ h.up)
          · omega
        · rw [zle, zl_60] at c4
          rcases hp with ⟨-, rfl, rfl, rfl⟩ | ⟨q, -⟩ | ⟨q, -⟩
          · exact ri (hq _ _ h.up)
          · omega
          · omega
/-- what a sort makes of a long -/
def fitL (s : Int) (v : Int64) : Int64 := if s = 0 then v.toInt32.toInt8.toInt32.toInt64 else if s = 1 then v.toInt32.toInt16.toInt32.toInt64 else if s = 2 then v.toInt32.toInt64 else if s = 4 then (if v = 0 then 0 else 1) else v
theorem tX9_fitted {s : Int32} {v : Int64} {Q : Int64 → jS → jL → Prop} (hs : 0 ≤ s.toInt ∧ s.toInt ≤ 4) (h : Q (fitL s.toInt v) I L) : cJ G l mX9_fitted (d + 1) [.int s, .long v] I L Q := by
  refine wX9_fitted_ok ?_
  unfold wX9_fitted
  unfold fitL at h
  refine ife (fun c => rl ?_) (fun c0 => ife (fun c => rl ?_) (fun c1 => ife (fun c => rl ?_) (fun c2 => ife (fun c => rl ?_) (fun c3 => ife (fun c => ife (fun q => rl ?_) (fun q => rl ?_)) (fun c4 => rl ?_)))))
  · subst c; exact h
  · subst c; exact h
  · subst c; exact h
  · subst c; exact h
  · subst c
    rw [lcmp_eq] at q
    rw [show (4 : Int32).toInt = 4 by decide, if_neg (by decide), if_neg (by decide), if_neg (by decide), if_pos rfl, if_pos q] at h
    exact h
  · subst c
    rw [lcmp_eq] at q
    rw [show (4 : Int32).toInt = 4 by decide, if_neg (by decide), if_neg (by decide), if_neg (by decide), if_pos rfl, if_neg q] at h
    exact h
  · simp only [zeq, z0, zl_1, zl_2, zl_3, zl_4] at *
    omega
theorem tX12_asSort {s : Int32} {v : Int64} {Q : Int64 → jS → jL → Prop} (h : Q (fitL s.toInt v) I L) : cJ G l mX12_asSort (d + 1) [.int s, .long v] I L Q := by
  refine wX12_asSort_ok ?_
  unfold wX12_asSort
  unfold fitL at h
  refine ife (fun c => rl ?_) (fun c0 => ife (fun c => rl ?_) (fun c1 => ife (fun c => rl ?_) (fun c2 => ife (fun c => ife (fun q => rl ?_) (fun q => rl ?_)) (fun c4 => rl ?_))))
  · subst c; exact h
  · subst c; exact h
  · subst c; exact h
  · subst c
    rw [lcmp_eq] at q
    rw [show (4 : Int32).toInt = 4 by decide, if_neg (by decide), if_neg (by decide), if_neg (by decide), if_pos rfl, if_pos q] at h
    exact h
  · subst c
    rw [lcmp_eq] at q
    rw [show (4 : Int32).toInt = 4 by decide, if_neg (by decide), if_neg (by decide), if_neg (by decide), if_pos rfl, if_neg q] at h
    exact h
  · simp only [zeq, z0, zl_1, zl_2, zl_4] at *
    rw [if_neg c0, if_neg c1, if_neg c2, if_neg c4] at h
    exact h
/-- what holds of a shelf's two pictures -/
theorem InvS_neg {e : Nat} (h : InvS I L) (hb : (I 68 2).toInt ≤ 50) (he : e < 6) : (I 58 e = -1 ↔ (I 89 e).toInt < 0) ∧ (0 ≤ (I 58 e).toInt ↔ 50 ≤ (I 89 e).toInt) ∧ (0 ≤ (I 58 e).toInt → (I 58 e).toInt ≤ 4 ∧ (I 89 e).toInt = 50 + (I 58 e).toInt ∧ I 90 e = I 59 e ∧ 0 ≤ (I 59 e).toInt ∧ (I 59 e).toInt ≤ 60) ∧ (I 58 e = 0 ↔ (I 89 e).toInt = 50) := by
  have zm1 : (-1 : Int32).toInt = -1 := by decide
  have zm2 : (-2 : Int32).toInt = -2 := by decide
  rw [zeq (a := I 58 e) (b := -1), zeq (a := I 58 e) (b := 0), zm1, z0]
  rcases (h e he).1 with q | q | q
  · rw [q.1, q.2.1, zm1]
    omega
  · have := q.2.2.2.1
    rw [q.1, q.2.1, zm2]
    refine ⟨by omega, by omega, by omega, by omega⟩
  · refine ⟨by omega, by omega, fun _ => ⟨q.2.1, q.2.2.1, q.2.2.2.2.1, q.2.2.2.2.2.1, q.2.2.2.2.2.2.1⟩, by omega⟩
theorem InvS_it {e j : Nat} (h : InvS I L) (he : e < 6) (h0 : 0 ≤ (I 58 e).toInt) (hj : j < 60) : L 91 (60 * e + j) = L (62 + e) j := (h e he).2 h0 j hj
/-- why an element can't be had, by the reference's cells -/
def rfs (sh mn i : Int) : Int32 := if sh < 0 then -11 else if sh < 50 then -12 else if 0 ≤ i ∧ i < mn then 0 else -13
theorem rfs_0 {sh mn i : Int} : rfs sh mn i = 0 ↔ 50 ≤ sh ∧ 0 ≤ i ∧ i < mn := by
  unfold rfs
  by_cases h1 : sh < 0
  · rw [if_pos h1]; exact ⟨fun q => absurd q (by decide), fun q => by omega⟩
  · rw [if_neg h1]
    by_cases h2 : sh < 50
    · rw [if_pos h2]; exact ⟨fun q => absurd q (by decide), fun q => by omega⟩
    · rw [if_neg h2]
      by_cases h3 : 0 ≤ i ∧ i < mn
      · rw [if_pos h3]; exact ⟨fun _ => ⟨by omega, h3⟩, fun _ => rfl⟩
      · rw [if_neg h3]; exact ⟨fun q => absurd q (by decide), fun q => absurd q.2 h3⟩
theorem tX9_placeRef {x y : Int32} {Q : Int32 → jS → jL → Prop} (hS : InvS I L) (hb : (I 68 2).toInt ≤ 50) (hx : 0 ≤ x.toInt ∧ x.toInt < 6) (h : Q (rfs (I 89 x.toInt.toNat).toInt (I 90 x.toInt.toNat).toInt y.toInt) I L) : cI G l mX9_placeRefusal (d + 3) [.ref 57, .int x, .int y] I L Q := by
  obtain ⟨n1, n2, n3, n4⟩ := InvS_neg hS hb (e := x.toInt.toNat) (by omega)
  unfold rfs at h
  refine wX9_placeRefusal_ok ?_
  unfold wX9_placeRefusal
  refine tX9_isEmpty (ifz (fun c => ?_) (fun c => ri ?_))
  · have c1 : ¬ (I 89 x.toInt.toNat).toInt < 0 := fun q => c (Or.inr (n1.mpr q))
    rw [if_neg c1] at h
    refine tX9_isRow (ifz (fun c2 => ri ?_) (fun c2 => ife (fun c3 => ri ?_) (fun c3 => ?_)))
    · rw [if_pos (by have : ¬ 0 ≤ (I 58 x.toInt.toNat).toInt := fun q => c2 ⟨hx, q⟩
                     rw [n2] at this; omega)] at h
      exact h
    · have := n2.mp c2.2
      rw [zlt, z0] at c3
      rw [if_neg (by omega), if_neg (by omega)] at h
      exact h
    · have := n2.mp c2.2
      rw [zlt, z0] at c3
      rw [if_neg (by omega)] at h
      refine tX9_sizeOf (ife (fun c4 => ri ?_) (fun c4 => ri ?_))
      · rw [if_pos hx, zle, ← (n3 c2.2).2.2.1] at c4
        rw [if_neg (by omega)] at h
        exact h
      · rw [if_pos hx, zle, ← (n3 c2.2).2.2.1] at c4
        rw [if_pos (by omega)] at h
        exact h
  · have c1 : (I 89 x.toInt.toNat).toInt < 0 := by
      rcases c with c | c
      · exact absurd hx c
      · exact n1.mp c
    rw [if_pos c1] at h
    exact h
theorem tX12_ref {x y : Int32} {Q : Int32 → jS → jL → Prop} (hx : 0 ≤ x.toInt ∧ x.toInt < 6) (h : Q (rfs (I 89 x.toInt.toNat).toInt (I 90 x.toInt.toNat).toInt y.toInt) I L) : cI G l mX12_refusal (d + 3) [.ref 71, .int x, .int y] I L Q := by
  unfold rfs at h
  refine wX12_refusal_ok ?_
  unfold wX12_refusal
  refine tX12_isShelf (ifz (fun c => absurd hx c) (fun c => ⟨by rw [zin]; omega, ?_⟩))
  rw [znat]
  refine ife (fun c1 => ife (fun c2 => ife (fun c3 => ri ?_) (fun c3 => ife (fun c4 => ri ?_) (fun c4 => ri ?_))) (fun c2 => ri ?_)) (fun c1 => ri ?_)
  all_goals simp only [zlt, zle, z0, zl_50] at *
  · rw [if_neg (by omega), if_neg (by omega), if_neg (by omega)] at h; exact h
  · rw [if_neg (by omega), if_neg (by omega), if_neg (by omega)] at h; exact h
  · rw [if_neg (by omega), if_neg (by omega), if_pos (by omega)] at h; exact h
  · rw [if_neg (by omega), if_pos (by omega)] at h; exact h
  · rw [if_pos (by omega)] at h; exact h
theorem tX12_refN {x y : Int32} {Q : Int32 → jS → jL → Prop} (hx : ¬ (0 ≤ x.toInt ∧ x.toInt < 6)) (h : Q (-1) I L) : cI G l mX12_refusal (d + 3) [.ref 71, .int x, .int y] I L Q := by
  refine wX12_refusal_ok ?_
  unfold wX12_refusal
  exact tX12_isShelf (ifz (fun c => ri h) (fun c => absurd c hx))
end RW

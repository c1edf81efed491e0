/-! mend -/
def shf (C : List Nat) (I : jS) (k : Nat) : jS := fun r => if r ∈ C then (fun i => if i + 1 < k then I r (i + 1) else I r i) else I r
theorem shf_ap {C : List Nat} {I : jS} {k r i : Nat} : shf C I k r i = if r ∈ C ∧ i + 1 < k then I r (i + 1) else I r i := by
  unfold shf
  by_cases h : r ∈ C
  · by_cases hi : i + 1 < k
    · simp [h, hi]
    · simp [h, hi]
  · simp [h]
theorem jcpy_sh {I : jS} {a r i : Nat} : jcpy I a a 1 0 39 r i = if r = a ∧ i + 1 < 40 then I a (i + 1) else I r i := by
  unfold jcpy va_cpy
  have e0 : (0 : Int32).toNatClampNeg = 0 := by decide
  have e1 : (1 : Int32).toNatClampNeg = 1 := by decide
  have e39 : (39 : Int32).toNatClampNeg = 39 := by decide
  by_cases h : r = a
  · subst h
    rw [if_pos rfl, e0, e1, e39]
    by_cases hi : i + 1 < 40
    · rw [if_pos (by omega), if_pos ⟨rfl, hi⟩]
      congr 1
      omega
    · rw [if_neg (by omega), if_neg (fun q => hi q.2)]
  · rw [if_neg h, if_neg (fun q => h q.1)]
theorem mem9b {w : Nat} (h : w < 9) : 3 + w ∈ [3, 4, 5, 6, 7, 8, 9, 10, 11, 12, 13, 14, 15, 16] := by
  have : w = 0 ∨ w = 1 ∨ w = 2 ∨ w = 3 ∨ w = 4 ∨ w = 5 ∨ w = 6 ∨ w = 7 ∨ w = 8 := by omega
  rcases this with rfl | rfl | rfl | rfl | rfl | rfl | rfl | rfl | rfl <;> decide
section M2
variable {LR : jLR} {G : jG} {l : Launch} {d k : Nat} {I : jS} {L : jL} {K : Int32 → Int32 → jS → jL → Prop}
theorem tX2_dropOldest {Q : jS → jL → Prop} (h : Q (u2 (shf [13, 14, 15, 16] I 40) 12 4 39) L) : cV G l mX2_dropOldest (d + 1) [.ref 12] I L Q := by
  refine wX2_dropOldest_ok ?_
  unfold wX2_dropOldest
  have hok : jcok 1 0 39 40 40 := ⟨by decide, by decide, by decide, by decide, by decide⟩
  refine ⟨hok, hok, hok, hok, rv ?_⟩
  have e : jcpy (jcpy (jcpy (jcpy I 13 13 1 0 39) 14 14 1 0 39) 15 15 1 0 39) 16 16 1 0 39 = shf [13, 14, 15, 16] I 40 := by
    funext r i
    simp only [jcpy_sh, shf_ap]
    by_cases hi : i + 1 < 40
    · by_cases h1 : r = 13
      · subst h1; simp [hi]
      · by_cases h2 : r = 14
        · subst h2; simp [hi]
        · by_cases h3 : r = 15
          · subst h3; simp [hi]
          · by_cases h4 : r = 16
            · subst h4; simp [hi]
            · simp [h1, h2, h3, h4]
    · simp [hi]
  rw [e]
  exact h
/-- the state of the changes when there is room for one more: nothing dropped, or the oldest -/
def rmC (C : List Nat) (I J : jS) (dn s : Nat) (done : Int) : Prop := dn < 40 ∧ (dn : Int) + s = done ∧ (done < 40 → s = 0) ∧ s ≤ 1 ∧ ∀ r, r ∈ C → ∀ i, i < dn → J r i = I r (i + s)
theorem zofn {x : Int32} {n : Nat} (h : x.toInt = n) : x + 1 = Int32.ofNat (n + 1) := by
  rw [zof h, zsucc]
theorem tX2_add {a b c e : Int32} {Q : jS → jL → Prop} (hd : 0 ≤ (I 12 4).toInt ∧ (I 12 4).toInt ≤ 40) (h : ∀ J dn s, rmC [13, 14, 15, 16] I J dn s (I 12 4).toInt → ag [12, 13, 14, 15, 16] [] I J → Q (u2 (u2 (u2 (u2 (u2 (u2 J 13 dn a) 14 dn b) 15 dn c) 16 dn e) 12 4 (Int32.ofNat (dn + 1))) 12 5 (Int32.ofNat (dn + 1))) L) : cV G l mX2_add (d + 2) [.ref 12, .int a, .int b, .int c, .int e] I L Q := by
  refine wX2_add_ok ?_
  unfold wX2_add
  have key : ∀ J dn s, rmC [13, 14, 15, 16] I J dn s (I 12 4).toInt → ag [12, 13, 14, 15, 16] [] I J → (J 12 4).toInt = dn → wX2_add_13 G l (d + 1) (fun v I' L' => v = none ∧ Q I' L') a b c e J L := by
    intro J dn s h1 h2 h3
    unfold wX2_add_13
    have h0 := h1.1
    refine ⟨by rw [zin, h3]; omega, rv ?_⟩
    rw [znat, h3, zofn h3, Int.toNat_natCast]
    exact h J dn s h1 h2
  refine ife (fun c4 => ?_) (fun c4 => ?_)
  · rw [zlt, zl_40] at c4
    exact key I (I 12 4).toInt.toNat 0 ⟨by omega, by omega, fun _ => rfl, by omega, fun r _ i _ => rfl⟩ ag.rf (by omega)
  · rw [zlt, zl_40] at c4
    refine tX2_dropOldest ?_
    refine key _ 39 1 ⟨by omega, by omega, fun q => by omega, by omega, fun r hr i hi => ?_⟩ ?_ (by rw [u2e]; decide)
    · have h12 : r ≠ 12 := fun q => by subst q; revert hr; decide
      rw [u2n h12, shf_ap, if_pos ⟨hr, by omega⟩]
    · refine agu ⟨fun r h1 h2 => ?_, fun i _ => ?_⟩ (by decide) (by decide)
      · have hr : r ∉ [13, 14, 15, 16] := fun q => h2 (by revert q; simp; omega)
        funext i
        rw [shf_ap, if_neg (fun q => hr q.1)]
      · rw [shf_ap, if_neg (fun q => by revert q; simp)]
theorem becomes_26 {Q : Option Value → jS → jL → Prop} {p v w : Int32} (h : wX12_becomes_97 G l d Q p v w (u2 (shf [73, 74, 75] I 40) 71 5 (I 71 5 - 1)) L) : ∀ m k, k + m = 40 → 1 ≤ k → wX12_becomes_26 G l d Q (m + 1) p v w (Int32.ofNat k) (shf [73, 74, 75] I k) L := by
  intro m
  induction m with
  | zero =>
    intro k hk _
    have : k = 40 := by omega
    subst this
    unfold wX12_becomes_26
    rw [if_pos (by decide), show shf [73, 74, 75] I 40 71 5 = I 71 5 by rw [shf_ap, if_neg (by simp)]]
    exact h
  | succ m ih =>
    intro k hk h1
    unfold wX12_becomes_26
    have e1 : (Int32.ofNat k - 1).toInt = k - 1 := by rw [zsub (by rw [zo (by omega), z1]; omega) (by rw [zo (by omega), z1]; omega), zo (by omega), z1]
    have e2 : (Int32.ofNat k - 1).toNatClampNeg = k - 1 := by rw [znat, e1]; omega
    rw [if_neg (by rw [zle, zo (by omega), zl_40]; omega)]
    refine ⟨by rw [zin, zo (by omega)]; omega, by rw [zin, e1]; omega, ?_⟩
    rw [e2, zon (by omega), zsucc]
    have e3 : u2 (u2 (u2 (shf [73, 74, 75] I k) 73 (k - 1) (shf [73, 74, 75] I k 73 k)) 74 (k - 1) (shf [73, 74, 75] I k 74 k)) 75 (k - 1) (shf [73, 74, 75] I k 75 k) = shf [73, 74, 75] I (k + 1) := by
      funext r i
      simp only [u2_ap, shf_ap]
      have n1 : ¬ k + 1 < k := by omega
      by_cases hi : i = k - 1
      · subst hi
        have n2 : ¬ (k - 1 + 1 < k) := by omega
        have n3 : k - 1 + 1 < k + 1 := by omega
        have n4 : k - 1 + 1 = k := by omega
        by_cases r1 : r = 75
        · subst r1; simp [n1, n3, n4]
        · by_cases r2 : r = 74
          · subst r2; simp [n1, n3, n4]
          · by_cases r3 : r = 73
            · subst r3; simp [n1, n3, n4]
            · simp [r1, r2, r3]
      · simp only [hi, and_false, if_false]
        by_cases hr : r ∈ [73, 74, 75]
        · by_cases h3 : i + 1 < k
          · rw [if_pos ⟨hr, h3⟩, if_pos ⟨hr, by omega⟩]
          · rw [if_neg (fun q => h3 q.2), if_neg (fun q => by omega)]
        · rw [if_neg (fun q => hr q.1), if_neg (fun q => hr q.1)]
    rw [e3]
    exact ih (k + 1) (by omega) (by omega)
theorem tX12_becomes {p v : Int32} {n : Nat} {Q : Int32 → jS → jL → Prop} (hp : p.toInt = n) (hn : n < 125) (hd : 0 ≤ (I 71 5).toInt ∧ (I 71 5).toInt ≤ 40) (h1 : I 72 n = v → Q v I L) (h2 : ¬ I 72 n = v → ∀ J dn s, rmC [73, 74, 75] I J dn s (I 71 5).toInt → ag [73, 74, 75] [5] I J → Q (I 72 n) (u2 (u2 (u2 (u2 (u2 (u2 J 73 dn p) 74 dn (I 72 n)) 75 dn v) 71 5 (Int32.ofNat (dn + 1))) 71 4 (Int32.ofNat (dn + 1))) 72 n v) L) : cI G l mX12_becomes (d + 1) [.ref 71, .int p, .int v] I L Q := by
  refine wX12_becomes_ok ?_
  unfold wX12_becomes
  have hpn : p.toNatClampNeg = n := by rw [znat, hp]; omega
  rw [hpn]
  have key : ∀ J dn s, ¬ I 72 n = v → rmC [73, 74, 75] I J dn s (I 71 5).toInt → ag [73, 74, 75] [5] I J → (J 71 5).toInt = dn → wX12_becomes_97 G l d (fun v I' L' => ∃ r, v = some (.int r) ∧ Q r I' L') p v (I 72 n) J L := by
    intro J dn s hne g1 g2 g3
    unfold wX12_becomes_97
    have h0 := g1.1
    refine ⟨by rw [zin, g3]; omega, by rw [zin, hp]; omega, ri ?_⟩
    rw [znat, g3, zofn g3, Int.toNat_natCast, hpn]
    exact h2 hne J dn s g1 g2
  refine ⟨by rw [zin, hp]; omega, ife (fun c => ri (by rw [c]; exact h1 c)) (fun c => ife (fun c2 => ?_) (fun c2 => ?_))⟩
  · rw [zeq, zl_40] at c2
    refine ⟨40, ?_⟩
    have h3 := becomes_26 (G := G) (l := l) (d := d) (I := I) (L := L) (Q := fun v I' L' => ∃ r, v = some (.int r) ∧ Q r I' L') (p := p) (v := v) (w := I 72 n) (key (u2 (shf [73, 74, 75] I 40) 71 5 (I 71 5 - 1)) 39 1 c ⟨by omega, by omega, fun q => by omega, by omega, fun r hr i hi => ?_⟩ ?_ ?_) 39 1 (by omega) (by omega)
    · have e0 : shf [73, 74, 75] I 1 = I := by
        funext r i
        rw [shf_ap, if_neg (fun q => by omega)]
      rw [e0] at h3
      exact h3
    · have h71 : r ≠ 71 := fun q => by subst q; revert hr; decide
      rw [u2n h71, shf_ap, if_pos ⟨hr, by omega⟩]
    · refine agm ⟨fun r g1 g2 => ?_, fun i _ => ?_⟩ (by decide)
      · funext i
        rw [shf_ap, if_neg (fun q => g2 q.1)]
      · rw [shf_ap, if_neg (fun q => by revert q; simp)]
    · rw [u2e, zsub (by rw [z1]; omega) (by rw [z1]; omega), z1, c2]
      rfl
  · rw [zeq, zl_40] at c2
    exact key I (I 71 5).toInt.toNat 0 c ⟨by omega, by omega, fun _ => rfl, by omega, fun r _ i _ => rfl⟩ ag.rf (by omega)
theorem T_mend {a b c : Int32} (hst : jSt G) (h : Inv LR k I L) (hk : ∀ r I' L', Inv LR (k + 1) I' L' → K r r I' L') :
    cI G l mX11_mend (d + 9) [.ref 0, .int a, .int b, .int c] I L (fun r I1 L1 => cI G l mX12_mend (d + 9) [.ref 71, .int a, .int b, .int c] I1 L1 (fun r' I2 L2 => K r r' I2 L2)) := by
  obtain ⟨hP, hC, hI, hT, hR, hD, hG, hA, hS, hM⟩ := id h
  obtain ⟨c1, c2, c3, c4⟩ := id hC
  have hg := hP.2.1
  refine two (P := fun r I1 L1 => L1 = L ∧ ((¬ (hasZ (I 1 1).toInt a.toInt b.toInt ∧ okv b.toInt.toNat c) ∧ r = -1 ∧ I1 = I) ∨ ((hasZ (I 1 1).toInt a.toInt b.toInt ∧ okv b.toInt.toNat c) ∧ r = I (3 + b.toInt.toNat) a.toInt.toNat ∧ ((r = c ∧ I1 = I) ∨ (¬ r = c ∧ ∃ J dn s, rmC [13, 14, 15, 16] I J dn s (I 12 4).toInt ∧ ag [3, 4, 5, 6, 7, 8, 9, 10, 11, 12, 13, 14, 15, 16] [] I J ∧ (∀ w' n', w' < 9 → J (3 + w') n' = if w' = b.toInt.toNat ∧ n' = a.toInt.toNat then c else I (3 + w') n') ∧ I1 = u2 (u2 (u2 (u2 (u2 (u2 J 13 dn a) 14 dn b) 15 dn r) 16 dn c) 12 4 (Int32.ofNat (dn + 1))) 12 5 (Int32.ofNat (dn + 1))))))) (fun Q hq => ?_) (fun r I1 L1 hp Q hq => ?_) hk
  · refine wX11_mend_ok ?_
    unfold wX11_mend
    refine tX7_has (ifz (fun q => ri (hq _ _ _ ⟨rfl, Or.inl ⟨fun z => q z.1, rfl, rfl⟩⟩)) (fun q => ?_))
    have hz : hasZ (I 1 1).toInt a.toInt b.toInt := q
    have hzn := hasZ_N hz
    refine tX7_allows hst (ifz (fun q2 => ri (hq _ _ _ ⟨rfl, Or.inl ⟨fun z => q2 ⟨by omega, by omega, z.2⟩, rfl, rfl⟩⟩)) (fun q2 => ?_))
    have hok : okv b.toInt.toNat c := q2.2.2
    refine tX7_get ?_
    rw [show (if 0 ≤ b.toInt ∧ b.toInt ≤ 8 ∧ 0 ≤ a.toInt ∧ a.toInt < 24 then I (3 + b.toInt.toNat) a.toInt.toNat else 0) = I (3 + b.toInt.toNat) a.toInt.toNat from if_pos (by unfold hasZ at hz; omega)]
    refine ife (fun q3 => ri (hq _ _ _ ⟨rfl, Or.inr ⟨⟨hz, hok⟩, rfl, Or.inl ⟨q3, rfl⟩⟩⟩)) (fun q3 => ?_)
    refine tX7_set (fun z => absurd hz z) (fun _ => ?_) (by omega)
    have hb9 : b.toInt.toNat < 9 := by unfold hasZ at hz; omega
    have e12 : (u2 I (3 + b.toInt.toNat) a.toInt.toNat c) 12 4 = I 12 4 := by rw [u2_ap, if_neg (by omega)]
    refine tX2_add (by rw [e12]; omega) (fun J dn s g1 g2 => ri (hq _ _ _ ⟨rfl, Or.inr ⟨⟨hz, hok⟩, rfl, Or.inr ⟨q3, J, dn, s, ?_, ?_, ?_, rfl⟩⟩⟩))
    · rw [e12] at g1
      refine ⟨g1.1, g1.2.1, g1.2.2.1, g1.2.2.2.1, fun r hr i hi => ?_⟩
      have hr2 : 13 ≤ r := by revert hr; simp; omega
      rw [g1.2.2.2.2 r hr i hi, u2_ne r (by omega)]
    · have h9 := mem9 hb9
      have g0 : ag [3, 4, 5, 6, 7, 8, 9, 10, 11, 12, 72] [] I (u2 I (3 + b.toInt.toNat) a.toInt.toNat c) := agu ag.rf h9 (by omega)
      refine ⟨fun r h1 h2 => ?_, fun i _ => ?_⟩
      · rw [g2.1 r h1 (fun z => h2 (by revert z; simp; omega)), u2_ne r (fun z => h2 (by rw [z]; exact mem9b hb9))]
      · rw [g2.2 i (by simp), g0.2 i (by simp)]
    · intro w' n' hw'
      rw [g2.1 (3 + w') (by omega) (by simp; omega)]
      simp only [u2_ap]
      by_cases hc : w' = b.toInt.toNat ∧ n' = a.toInt.toNat
      · rw [if_pos hc, if_pos (by omega)]
      · rw [if_neg hc, if_neg (by omega)]
  · obtain ⟨rfl, hp⟩ := hp
    refine wX12_mend_ok ?_
    unfold wX12_mend
    have f71 : ∀ i, I1 71 i = I 71 i := by
      rcases hp with ⟨-, -, rfl⟩ | ⟨-, -, ⟨-, rfl⟩ | ⟨-, J, dn, s, g1, g2, g3, rfl⟩⟩
      · exact fun _ => rfl
      · exact fun _ => rfl
      · intro i
        simp only [u2_ap]
        simp only [show ¬ (71 = 12) by decide, show ¬ (71 = 13) by decide, show ¬ (71 = 14) by decide, show ¬ (71 = 15) by decide, show ¬ (71 = 16) by decide, false_and, if_false]
        exact g2.2 i (by simp)
    have f72 : I1 72 = I 72 := by
      rcases hp with ⟨-, -, rfl⟩ | ⟨-, -, ⟨-, rfl⟩ | ⟨-, J, dn, s, g1, g2, g3, rfl⟩⟩
      · rfl
      · rfl
      · rw [u2_ne 72 (by decide), u2_ne 72 (by decide), u2_ne 72 (by decide), u2_ne 72 (by decide), u2_ne 72 (by decide), u2_ne 72 (by decide)]
        exact g2.1 72 (by decide) (by decide)
    have e6 : I1 71 6 = I 1 1 := (f71 6).trans hP.1
    have e5 : I1 71 5 = I 12 4 := (f71 5).trans c1
    refine tX12_placeOf (by rw [e6]; exact hg) (fun z => ?_) (fun z r0 hr0 => ?_)
    · rw [e6] at z
      rcases hp with ⟨-, rfl, rfl⟩ | ⟨q, -⟩
      · rw [if_pos (by decide)]
        exact ri (hq _ _ h.up)
      · exact absurd q.1 z
    · rw [e6] at z
      have hzn := hasZ_N z
      have hpl := placeN_lt hg.2 hzn
      rw [if_neg (by rw [zlt, hr0, z0]; omega)]
      refine tX12_mayBecome (by unfold hasZ at z; omega) (fun z2 => ?_) (fun z2 => ?_)
      · rw [if_pos rfl]
        rcases hp with ⟨-, rfl, rfl⟩ | ⟨q, -⟩
        · exact ri (hq _ _ h.up)
        · exact absurd q.2 z2
      · rw [if_neg (by decide)]
        rcases hp with ⟨q, -⟩ | ⟨-, hr, hp⟩
        · exact absurd ⟨z, z2⟩ q
        · have hv := (hP.2.2.1 _ _ hzn).1
          have hv2 := (hP.2.2.1 _ _ hzn).2
          refine tX12_becomes hr0 hpl (by rw [e5]; omega) (fun y => ?_) (fun y J' dn' s' k1 k2 => ?_)
          · rcases hp with ⟨rfl, rfl⟩ | ⟨q, -⟩
            · exact ri (hq _ _ h.up)
            · exact absurd (by rw [hr, ← hv, ← f72]; exact y) q
          · rcases hp with ⟨q, rfl⟩ | ⟨hne, J, dn, s, g1, g2, g3, hI1⟩
            · exact absurd (by rw [hv, ← hr]; exact q) y
            · rw [f72, hv, ← hr]
              refine ri (hq _ _ ?_)
              rw [e5] at k1
              have hdn : dn' = dn ∧ s' = s := by
                obtain ⟨a1, a2, a3, a4, -⟩ := g1
                obtain ⟨b1, b2, b3, b4, -⟩ := k1
                omega
              obtain ⟨rfl, rfl⟩ := hdn
              generalize hw : b.toInt.toNat = w at *
              generalize hn : a.toInt.toNat = n at *
              have hw9 : w < 9 := by unfold hasN at hzn; omega
              have g11 := g1.1
              have hI1r : ∀ r, r ≠ 12 → r ≠ 13 → r ≠ 14 → r ≠ 15 → r ≠ 16 → I1 r = J r := fun r q1 q2 q3 q4 q5 => by
                rw [hI1, u2_ne r q1, u2_ne r q1, u2_ne r q5, u2_ne r q4, u2_ne r q3, u2_ne r q2]
              have ha1 : ag [3, 4, 5, 6, 7, 8, 9, 10, 11, 12, 13, 14, 15, 16, 72, 73, 74, 75] [4, 5] I I1 := by
                rw [hI1]
                exact agu (agu (agu (agu (agu (agu (ag.mono g2 (by decide) (by decide)) (by decide) (by decide)) (by decide) (by decide)) (by decide) (by decide)) (by decide) (by decide)) (by decide) (by decide)) (by decide) (by decide)
              have ha : ag [3, 4, 5, 6, 7, 8, 9, 10, 11, 12, 13, 14, 15, 16, 72, 73, 74, 75] [4, 5] I (u2 (u2 (u2 (u2 (u2 (u2 J' 73 dn' r0) 74 dn' r) 75 dn' c) 71 5 (Int32.ofNat (dn' + 1))) 71 4 (Int32.ofNat (dn' + 1))) 72 (placeN n w) c) :=
                agu (agm (agm (agu (agu (agu (ag.tr ha1 (ag.mono k2 (S' := [3, 4, 5, 6, 7, 8, 9, 10, 11, 12, 13, 14, 15, 16, 72, 73, 74, 75]) (T' := [4, 5]) (by decide) (by decide)) (fun _ q => q) (fun _ q => q)) (by decide) (by decide)) (by decide) (by decide)) (by decide) (by decide)) (by decide)) (by decide)) (by decide) (by decide)
              generalize hI2 : u2 (u2 (u2 (u2 (u2 (u2 J' 73 dn' r0) 74 dn' r) 75 dn' c) 71 5 (Int32.ofNat (dn' + 1))) 71 4 (Int32.ofNat (dn' + 1))) 72 (placeN n w) c = I2 at ha
              have e1 : I2 1 1 = I 1 1 := by rw [ha.1 1 (by decide) (by decide)]
              have lo : ∀ r, r ∈ [1, 3, 4, 5, 6, 7, 8, 9, 10, 11, 12, 13, 14, 15, 16] → I2 r = I1 r := fun r hr => by
                have q : r ≠ 71 ∧ r ≠ 72 ∧ r ≠ 73 ∧ r ≠ 74 ∧ r ≠ 75 := by revert hr; simp; omega
                rw [← hI2, u2_ne r q.2.1, u2_ne r q.1, u2_ne r q.1, u2_ne r q.2.2.2.2, u2_ne r q.2.2.2.1, u2_ne r q.2.2.1]
                exact k2.1 r q.1 (by simp; omega)
              refine ⟨InvP_set hP hzn z2 e1 (ha.2 6 (by decide)) (fun w' n' hw' => ?_) (fun j => ?_), ?_, hI.ag ha rfl (by omega), hT.ag ha rfl, LR_ag hR ha rfl, hD.ag ha rfl, hG.ag ha rfl (by omega), hA.ag ha rfl, hS.ag ha rfl, hM.ag ha rfl rfl⟩
              · rw [lo (3 + w') (by simp; omega), hI1r _ (by omega) (by omega) (by omega) (by omega) (by omega)]
                exact g3 w' n' hw'
              · rw [← hI2]
                have q72 : J' 72 = I 72 := (k2.1 72 (by decide) (by decide)).trans f72
                simp only [u2_ap]
                by_cases hc : j = placeN n w
                · rw [if_pos (by simp [hc]), if_pos hc]
                · rw [if_neg (fun q => hc q.2), if_neg hc]
                  simp [q72]
              · have d4 : I2 12 4 = Int32.ofNat (dn' + 1) := by rw [lo 12 (by decide), hI1, u2i (by decide), u2e]
                have d5 : I2 12 5 = Int32.ofNat (dn' + 1) := by rw [lo 12 (by decide), hI1, u2e]
                have m5 : I2 71 5 = Int32.ofNat (dn' + 1) := by rw [← hI2]; simp [u2_ap]
                have m4 : I2 71 4 = Int32.ofNat (dn' + 1) := by rw [← hI2]; simp [u2_ap]
                refine ⟨by rw [m5, d4], by rw [m4, d5], by rw [d4, d5, zo (by omega)]; omega, fun j hj => ?_⟩
                rw [d5, zo (by omega)] at hj
                rw [lo 13 (by decide), lo 14 (by decide), lo 15 (by decide), lo 16 (by decide), e1]
                have hup : ∀ r, r ∈ [73, 74, 75] → j ≠ dn' → I2 r j = I1 r (j + s') := fun r hr hj2 => by
                  have q : r ≠ 71 ∧ r ≠ 72 := by revert hr; simp; omega
                  rw [← hI2, u2_ne r q.2, u2_ne r q.1, u2_ne r q.1, u2_ap, if_neg (fun q => hj2 q.2), u2_ap, if_neg (fun q => hj2 q.2), u2_ap, if_neg (fun q => hj2 q.2)]
                  exact k1.2.2.2.2 r hr j (by omega)
                have hlow : ∀ r, r ∈ [13, 14, 15, 16] → j ≠ dn' → I1 r j = I r (j + s') := fun r hr hj2 => by
                  have q : r ≠ 12 := by revert hr; simp; omega
                  rw [hI1, u2_ne r q, u2_ne r q, u2_ap, if_neg (fun q => hj2 q.2), u2_ap, if_neg (fun q => hj2 q.2), u2_ap, if_neg (fun q => hj2 q.2), u2_ap, if_neg (fun q => hj2 q.2)]
                  exact g1.2.2.2.2 r hr j (by omega)
                by_cases hjd : j = dn'
                · subst hjd
                  have p13 : I1 13 j = a := by rw [hI1]; simp [u2_ap]
                  have p14 : I1 14 j = b := by rw [hI1]; simp [u2_ap]
                  have p15 : I1 15 j = r := by rw [hI1]; simp [u2_ap]
                  have p16 : I1 16 j = c := by rw [hI1]; simp [u2_ap]
                  have p73 : I2 73 j = r0 := by rw [← hI2]; simp [u2_ap]
                  have p74 : I2 74 j = r := by rw [← hI2]; simp [u2_ap]
                  have p75 : I2 75 j = c := by rw [← hI2]; simp [u2_ap]
                  rw [p13, p14, p15, p16, p73, p74, p75]
                  have za : 0 ≤ a.toInt ∧ 0 ≤ b.toInt := by unfold hasZ at z; omega
                  exact ⟨n, w, by omega, by omega, hzn, hr0, rfl, rfl, by rw [hr]; exact hv2, z2⟩
                · have hold := c4 (j + s') (by have := g1.2.1; omega)
                  have r73 : I1 73 = I 73 := (hI1r 73 (by decide) (by decide) (by decide) (by decide) (by decide)).trans (g2.1 73 (by decide) (by decide))
                  have r74 : I1 74 = I 74 := (hI1r 74 (by decide) (by decide) (by decide) (by decide) (by decide)).trans (g2.1 74 (by decide) (by decide))
                  have r75 : I1 75 = I 75 := (hI1r 75 (by decide) (by decide) (by decide) (by decide) (by decide)).trans (g2.1 75 (by decide) (by decide))
                  rw [hup 73 (by decide) hjd, hup 74 (by decide) hjd, hup 75 (by decide) hjd, hlow 13 (by decide) hjd, hlow 14 (by decide) hjd, hlow 15 (by decide) hjd, hlow 16 (by decide) hjd, r73, r74, r75]
                  exact hold
end M2

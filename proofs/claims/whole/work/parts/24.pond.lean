/-! squares and goers: set, add; the reference's adds, placeOf, mayBecome -/
def hasZ (g n w : Int) : Prop := 0 ≤ n ∧ ((0 ≤ w ∧ w < 4 ∧ n < 24) ∨ (4 ≤ w ∧ w < 8 ∧ n < g) ∨ (w = 8 ∧ n = 0))
theorem hasZ_N {g n w : Int} (h : hasZ g n w) : hasN g n.toNat w.toNat := by unfold hasZ at h; unfold hasN; omega
theorem hasN_Z {g : Int} {n w : Nat} (h : hasN g n w) : hasZ g n w := by unfold hasN at h; unfold hasZ; omega
theorem okv_v (w : Nat) (a b : Int) (h1 : (jsl2.getD w 0).toInt = a) (h2 : (jsl3.getD w 0).toInt = b) (v : Int32) : okv w v ↔ a ≤ v.toInt ∧ v.toInt ≤ b := by unfold okv; rw [h1, h2]
theorem okv_0 (v : Int32) : okv 0 v ↔ 0 ≤ v.toInt ∧ v.toInt ≤ 99 := okv_v 0 0 99 (by decide) (by decide) v
theorem okv_1 (v : Int32) : okv 1 v ↔ 0 ≤ v.toInt ∧ v.toInt ≤ 9 := okv_v 1 0 9 (by decide) (by decide) v
theorem okv_2 (v : Int32) : okv 2 v ↔ 0 ≤ v.toInt ∧ v.toInt ≤ 12 := okv_v 2 0 12 (by decide) (by decide) v
theorem okv_3 (v : Int32) : okv 3 v ↔ 0 ≤ v.toInt ∧ v.toInt ≤ 99 := okv_v 3 0 99 (by decide) (by decide) v
theorem okv_4 (v : Int32) : okv 4 v ↔ 1 ≤ v.toInt ∧ v.toInt ≤ 60 := okv_v 4 1 60 (by decide) (by decide) v
theorem okv_5 (v : Int32) : okv 5 v ↔ 0 ≤ v.toInt ∧ v.toInt ≤ 1 := okv_v 5 0 1 (by decide) (by decide) v
theorem okv_6 (v : Int32) : okv 6 v ↔ 0 ≤ v.toInt ∧ v.toInt ≤ 60 := okv_v 6 0 60 (by decide) (by decide) v
theorem okv_7 (v : Int32) : okv 7 v ↔ 1 ≤ v.toInt ∧ v.toInt ≤ 9 := okv_v 7 1 9 (by decide) (by decide) v
theorem okv_8 (v : Int32) : okv 8 v ↔ 0 ≤ v.toInt ∧ v.toInt ≤ 999 := okv_v 8 0 999 (by decide) (by decide) v
section PD
variable {G : jG} {l : Launch} {d : Nat} {I : jS} {L : jL} {Q : Int32 → jS → jL → Prop} {Qv : jS → jL → Prop}
theorem tX7_al {w : Int32} {v : Int32} {n : Nat} {a b : Int} (hst : jSt G) (hw : w.toInt = n) (hn : n ≤ 8) (hab : ∀ v, okv n v ↔ a ≤ v.toInt ∧ v.toInt ≤ b) (h : Q (b01 (a ≤ v.toInt ∧ v.toInt ≤ b)) I L) : cI G l mX7_allows (d + 1) [.ref 1, .int w, .int v] I L Q := by
  refine tX7_allows hst ?_
  have h2 := hab v
  unfold okv at h2
  rw [hw, Int.toNat_natCast, b01_iff (q := a ≤ v.toInt ∧ v.toInt ≤ b) (by omega)]
  exact h
theorem tX7_set {n w v : Int32} (h1 : ¬ hasZ (I 1 1).toInt n.toInt w.toInt → Qv I L) (h2 : hasZ (I 1 1).toInt n.toInt w.toInt → Qv (u2 I (3 + w.toInt.toNat) n.toInt.toNat v) L) (hg : (I 1 1).toInt ≤ 24) : cV G l mX7_set (d + 2) [.ref 1, .int n, .int w, .int v] I L Qv := by
  refine wX7_set_ok ?_
  unfold wX7_set
  refine tX7_has (ifz (fun c => rv ?_) (fun c => ?_))
  · exact h1 (fun q => c (by unfold hasZ at q; exact q))
  · have c2 : hasZ (I 1 1).toInt n.toInt w.toInt := by unfold hasZ; exact c
    exact ⟨by rw [zin]; omega, by rw [zin]; omega, rv (h2 c2)⟩
theorem tX7_add {w t p : Int32} (hg : 0 ≤ (I 1 1).toInt ∧ (I 1 1).toInt ≤ 7) (h1 : (I 1 1).toInt = 7 → Q (-3) I L) (h2 : (I 1 1).toInt < 7 → Q (I 1 1) (u2 (u2 (u2 (u2 I 1 1 (I 1 1 + 1)) 7 (I 1 1).toInt.toNat w) 9 (I 1 1).toInt.toNat t) 10 (I 1 1).toInt.toNat p) L) : cI G l mX7_add (d + 3) [.ref 1, .int w, .int t, .int p] I L Q := by
  refine wX7_add_ok ?_
  unfold wX7_add
  refine ife (fun c => ?_) (fun c => ri (h1 ?_))
  · rw [zlt, zl_7] at c
    have hp : (I 1 1 + 1).toInt = (I 1 1).toInt + 1 := by rw [zadd (by rw [z1]; omega) (by rw [z1]; omega), z1]
    have hz : ∀ J : jS, J 1 1 = I 1 1 + 1 → ∀ x : Int32, 4 ≤ x.toInt → x.toInt < 8 → hasZ (J 1 1).toInt (I 1 1).toInt x.toInt := fun J hJ x h4 h8 => by
      rw [hJ, hp]; unfold hasZ; omega
    have e1 : (u2 I 1 1 (I 1 1 + 1)) 1 1 = I 1 1 + 1 := u2e
    refine tX7_set (fun q => absurd (hz _ e1 4 (by decide) (by decide)) q) (fun _ => ?_) (by rw [e1, hp]; omega)
    have e2 : (u2 (u2 I 1 1 (I 1 1 + 1)) (3 + (4 : Int32).toInt.toNat) (I 1 1).toInt.toNat w) 1 1 = I 1 1 + 1 := (u2n (by decide)).trans e1
    refine tX7_set (fun q => absurd (hz _ e2 6 (by decide) (by decide)) q) (fun _ => ?_) (by rw [e2, hp]; omega)
    have e3 : (u2 (u2 (u2 I 1 1 (I 1 1 + 1)) (3 + (4 : Int32).toInt.toNat) (I 1 1).toInt.toNat w) (3 + (6 : Int32).toInt.toNat) (I 1 1).toInt.toNat t) 1 1 = I 1 1 + 1 := (u2n (by decide)).trans e2
    refine tX7_set (fun q => absurd (hz _ e3 7 (by decide) (by decide)) q) (fun _ => ri ?_) (by rw [e3, hp]; omega)
    exact h2 c
  · rw [zlt, zl_7] at c
    omega
theorem znat_add {a : Int32} {k : Int32} {n : Nat} (hk : k.toInt = n) (h0 : 0 ≤ a.toInt) (h1 : a.toInt ≤ 1000) (hn : n ≤ 1000) : (k + a).toInt = n + a.toInt ∧ (k + a).toNatClampNeg = n + a.toInt.toNat := by
  have e : (k + a).toInt = n + a.toInt := by rw [zadd (by omega) (by omega), hk]
  exact ⟨e, by rw [znat, e]; omega⟩
theorem tX12_adds {w t p : Int32} (hg : 0 ≤ (I 71 6).toInt ∧ (I 71 6).toInt < 7) (h : Qv (u2 (u2 (u2 (u2 (u2 I 72 (96 + (I 71 6).toInt.toNat) w) 72 (103 + (I 71 6).toInt.toNat) 0) 72 (110 + (I 71 6).toInt.toNat) t) 72 (117 + (I 71 6).toInt.toNat) p) 71 6 (I 71 6 + 1)) L) : cV G l mX12_adds (d + 1) [.ref 71, .int w, .int t, .int p] I L Qv := by
  refine wX12_adds_ok ?_
  unfold wX12_adds
  obtain ⟨a1, b1⟩ := znat_add (a := I 71 6) (k := 96) (n := 96) (by decide) hg.1 (by omega) (by decide)
  obtain ⟨a2, b2⟩ := znat_add (a := I 71 6) (k := 103) (n := 103) (by decide) hg.1 (by omega) (by decide)
  obtain ⟨a3, b3⟩ := znat_add (a := I 71 6) (k := 110) (n := 110) (by decide) hg.1 (by omega) (by decide)
  obtain ⟨a4, b4⟩ := znat_add (a := I 71 6) (k := 117) (n := 117) (by decide) hg.1 (by omega) (by decide)
  refine ⟨by rw [zin, a1]; omega, by rw [zin, a2]; omega, by rw [zin, a3]; omega, by rw [zin, a4]; omega, rv ?_⟩
  rw [b1, b2, b3, b4]
  exact h
theorem tX12_placeOf {n w : Int32} (hg : 0 ≤ (I 71 6).toInt ∧ (I 71 6).toInt ≤ 7) (h1 : ¬ hasZ (I 71 6).toInt n.toInt w.toInt → Q (-1) I L) (h2 : hasZ (I 71 6).toInt n.toInt w.toInt → ∀ r : Int32, r.toInt = placeN n.toInt.toNat w.toInt.toNat → Q r I L) : cI G l mX12_placeOf (d + 3) [.ref 71, .int n, .int w] I L Q := by
  refine wX12_placeOf_ok ?_
  unfold wX12_placeOf
  refine tX12_win (a := 0) (b := 3) (by decide) (by decide) (ifz (fun c => ?_) (fun c => ?_))
  · refine tX12_win (a := 4) (b := 7) (by decide) (by decide) (ifz (fun c2 => ?_) (fun c2 => ?_))
    · refine ife (fun c3 => ife (fun c4 => ri ?_) (fun c4 => ri ?_)) (fun c3 => ri ?_)
      · rw [zeq, zl_8] at c3
        rw [zeq, z0] at c4
        exact h2 (by unfold hasZ; omega) _ (by rw [c3, c4]; rfl)
      · rw [zeq, zl_8] at c3
        rw [zeq, z0] at c4
        exact h1 (by unfold hasZ; omega)
      · rw [zeq, zl_8] at c3
        exact h1 (by unfold hasZ; omega)
    · refine tX12_isGoer hg.1 (ifz (fun c3 => ri ?_) (fun c3 => ri ?_))
      · rw [z64] at c3
        exact h1 (by unfold hasZ; omega)
      · rw [z64] at c3
        refine h2 (by unfold hasZ; omega) _ ?_
        have e1 : (w - 4).toInt = w.toInt - 4 := by rw [zsub (by rw [zl_4]; omega) (by rw [zl_4]; omega), zl_4]
        have e2 : (7 * (w - 4)).toInt = 7 * (w.toInt - 4) := by rw [zmul (by rw [zl_7, e1]; omega) (by rw [zl_7, e1]; omega), zl_7, e1]
        have e3 : (96 + 7 * (w - 4)).toInt = 96 + 7 * (w.toInt - 4) := by rw [zadd (by rw [zl_96, e2]; omega) (by rw [zl_96, e2]; omega), zl_96, e2]
        rw [zadd (by rw [e3]; omega) (by rw [e3]; omega), e3]
        unfold placeN
        rw [if_neg (by omega), if_pos (by omega)]
        omega
  · refine tX12_isSquare (ifz (fun c3 => ri ?_) (fun c3 => ri ?_))
    · exact h1 (by unfold hasZ; omega)
    · refine h2 (by unfold hasZ; omega) _ ?_
      have e2 : (24 * w).toInt = 24 * w.toInt := by rw [zmul (by rw [zl_24]; omega) (by rw [zl_24]; omega), zl_24]
      rw [zadd (by rw [e2]; omega) (by rw [e2]; omega), e2]
      unfold placeN
      rw [if_pos (by omega)]
      omega
theorem tX12_mayBecome {w v : Int32} (hw : 0 ≤ w.toInt ∧ w.toInt ≤ 8) (h1 : ¬ okv w.toInt.toNat v → Q 0 I L) (h2 : okv w.toInt.toNat v → Q 1 I L) : cI G l mX12_mayBecome (d + 2) [.int w, .int v] I L Q := by
  have key : ∀ {a b : Int} {A B : Int64} (n : Nat), A.toInt = a → B.toInt = b → w.toInt.toNat = n → (∀ v, okv n v ↔ a ≤ v.toInt ∧ v.toInt ≤ b) → cI G l mX12_within (d + 1) [.long v.toInt64, .long A, .long B] I L (fun r I1 L1 => (r = 0 ∨ r = 1) ∧ ∃ r', (some (Value.int r) : Option Value) = some (.int r') ∧ Q r' I1 L1) := by
    intro a b A B n hA hB hn hab
    refine tX12_win (a := a) (b := b) hA hB ⟨b01_or, ri ?_⟩
    rw [hn] at h1 h2
    by_cases hc : a ≤ v.toInt ∧ v.toInt ≤ b
    · rw [b01_pos hc]; exact h2 ((hab v).mpr hc)
    · rw [b01_neg hc]; exact h1 (fun q => hc ((hab v).mp q))
  refine wX12_mayBecome_ok ?_
  unfold wX12_mayBecome
  refine ife (fun c => ?_) (fun c1 => ife (fun c => ?_) (fun c2 => ife (fun c => ?_) (fun c3 => ife (fun c => ?_) (fun c4 => ife (fun c => ?_) (fun c5 => ife (fun c => ?_) (fun c6 => ife (fun c => ?_) (fun c7 => ife (fun c => ?_) (fun c8 => ?_))))))))
  · exact key 1 (by decide) (by decide) (by rw [c]; rfl) okv_1
  · exact key 2 (by decide) (by decide) (by rw [c]; rfl) okv_2
  · exact key 3 (by decide) (by decide) (by rw [c]; rfl) okv_3
  · exact key 4 (by decide) (by decide) (by rw [c]; rfl) okv_4
  · exact key 5 (by decide) (by decide) (by rw [c]; rfl) okv_5
  · exact key 6 (by decide) (by decide) (by rw [c]; rfl) okv_6
  · exact key 7 (by decide) (by decide) (by rw [c]; rfl) okv_7
  · exact key 8 (by decide) (by decide) (by rw [c]; rfl) okv_8
  · simp only [zeq, zl_1, zl_2, zl_3, zl_4, zl_5, zl_6, zl_7, zl_8] at *
    exact key 0 (by decide) (by decide) (by omega) okv_0
end PD

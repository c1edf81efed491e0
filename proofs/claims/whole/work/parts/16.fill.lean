/-! Arrays.fill -/
def fl (I : jS) (r n : Nat) (v : Int32) : jS := fun r' => if r' = r then (fun i => if i < n then v else I r' i) else I r'
def flL (I : jL) (r n : Nat) (v : Int64) : jL := fun r' => if r' = r then (fun i => if i < n then v else I r' i) else I r'
theorem fl_zero {I : jS} {r : Nat} {v : Int32} : fl I r 0 v = I := by
  funext r' i
  by_cases h : r' = r <;> simp [fl, h]
theorem fl_succ {I : jS} {r k : Nat} {v : Int32} : u2 (fl I r k v) r k v = fl I r (k + 1) v := by
  funext r' i
  by_cases h : r' = r
  · subst h
    simp only [u2, fl, if_true, upd]
    by_cases hi : i = k
    · subst hi; simp
    · by_cases h2 : i < k
      · simp [hi, h2, Nat.lt_succ_of_lt h2]
      · simp [hi, h2, show ¬ i < k + 1 by omega]
  · simp [u2, fl, h]
theorem flL_zero {I : jL} {r : Nat} {v : Int64} : flL I r 0 v = I := by
  funext r' i
  by_cases h : r' = r <;> simp [flL, h]
theorem flL_succ {I : jL} {r k : Nat} {v : Int64} : u2L (flL I r k v) r k v = flL I r (k + 1) v := by
  funext r' i
  by_cases h : r' = r
  · subst h
    simp only [u2L, flL, if_true, vp_updL]
    by_cases hi : i = k
    · subst hi; simp
    · by_cases h2 : i < k
      · simp [hi, h2, Nat.lt_succ_of_lt h2]
      · simp [hi, h2, show ¬ i < k + 1 by omega]
  · simp [u2L, flL, h]
theorem jofnat_lt {k n : Nat} (hk : k < 2 ^ 31) (hn : n < 2 ^ 31) : (Int32.ofNat k < Int32.ofNat n) ↔ k < n := by
  rw [Int32.lt_iff_toInt_lt, Int32.toInt_ofNat_of_lt hk, Int32.toInt_ofNat_of_lt hn]
  omega
theorem jofnat_le {k n : Nat} (hk : k < 2 ^ 31) (hn : n < 2 ^ 31) : (Int32.ofNat k ≤ Int32.ofNat n) ↔ k ≤ n := by
  rw [Int32.le_iff_toInt_le, Int32.toInt_ofNat_of_lt hk, Int32.toInt_ofNat_of_lt hn]
  omega
theorem jofnat_nn {k : Nat} (hk : k < 2 ^ 31) : (Int32.ofNat k).toNatClampNeg = k := by
  show (Int32.ofNat k).toInt.toNat = k
  rw [Int32.toInt_ofNat_of_lt hk]
  omega
theorem jofnat_in {k n : Nat} (hk : k < n) (hn : n < 2 ^ 31) : vp_in (Int32.ofNat k) n := by
  intro h
  rcases h with h | h
  · rw [Int32.lt_iff_toInt_lt, Int32.toInt_ofNat_of_lt (by omega)] at h
    have h0 : (0 : Int32).toInt = 0 := rfl
    omega
  · rw [jofnat_nn (by omega)] at h
    omega
theorem jofnat_succ (k : Nat) : Int32.ofNat k + Int32.ofInt 1 = Int32.ofNat (k + 1) := by
  rw [Int32.ofNat_add]
  rfl
section JFL
variable {G : jG} {l : Launch} {d mc ms : Nat} {ks : jK} {I : jS} {L : jL} {R : jR} {Q : Option Value → jW → Prop}
theorem fill_loop {r n : Nat} {v : Int32} (hk : ks[r]? = some (20, n)) (hn : n ≤ 1000) (h : Q none (ks, fl I r n v, L, R)) : ∀ (m k : Nat), k + m = n → J G l yJ7_fill_53178 cJ7_fill_53178 4 d 0 0 5 [some (.ref r), some (.int v), some (.int (Int32.ofNat k)), some (.int (Int32.ofNat n))] [] (ks, fl I r k v, L, R) (fun v w' => jnar none v ∧ Q v w') := by
  intro m
  induction m with
  | zero =>
    intro k hkn
    have hkn : k = n := by omega
    subst hkn
    refine jr_iload_n dJ7_fill_53178_5 rfl rfl ?_
    refine jr_iload_n dJ7_fill_53178_6 rfl rfl ?_
    refine jr_icmp_ge dJ7_fill_53178_7 (tgt := 20) (by decide) (fun c => ?_) (fun c => ?_)
    · exact jr_return dJ7_fill_53178_20 ⟨Or.inl ⟨rfl, rfl⟩, h⟩
    · exact absurd ((jofnat_le (by omega) (by omega)).mpr (Nat.le_refl _)) c
  | succ m ih =>
    intro k hkn
    refine jr_iload_n dJ7_fill_53178_5 rfl rfl ?_
    refine jr_iload_n dJ7_fill_53178_6 rfl rfl ?_
    refine jr_icmp_ge dJ7_fill_53178_7 (tgt := 20) (by decide) (fun c => ?_) (fun c => ?_)
    · have := (jofnat_le (by omega) (by omega)).mp c
      omega
    · refine jr_aload_n dJ7_fill_53178_10 rfl rfl ?_
      refine jr_iload_n dJ7_fill_53178_11 rfl rfl ?_
      refine jr_iload_n dJ7_fill_53178_12 rfl rfl ?_
      refine jr_iastore (jofnat_nn (by omega)) hk dJ7_fill_53178_13 (jofnat_in (by omega) (by omega)) ?_
      rw [fl_succ]
      refine jr_iinc dJ7_fill_53178_14 rfl (jofnat_succ k) (by decide) rfl ?_
      refine jr_goto dJ7_fill_53178_17 (tgt := 5) (by decide) ?_
      exact ih (k + 1) (by omega)
theorem k_fill {r n : Nat} {v : Int32} (hk : ks[r]? = some (20, n)) (hn : n ≤ 1000) (h : Q none (ks, fl I r n v, L, R)) : jCall G l yJ7_fill_53178 cJ7_fill_53178 4 none d 0 0 [.ref r, .int v] (ks, I, L, R) Q := by
  refine jCall_of (n0 := 2) (ls := [some (.ref r), some (.int v), none, none]) (by decide +kernel) rfl (Nat.le_of_ble_eq_true rfl) ?_
  refine jr_iconst dJ7_fill_53178_0 (v := Int32.ofNat 0) rfl ?_
  refine jr_istore_n dJ7_fill_53178_1 rfl (by decide) rfl ?_
  refine jr_aload_n dJ7_fill_53178_2 rfl rfl ?_
  refine jr_alen_i hk rfl dJ7_fill_53178_3 ?_
  refine jr_istore_n dJ7_fill_53178_4 rfl (by decide) rfl ?_
  have h2 := fill_loop (G := G) (l := l) (d := d) (L := L) (R := R) (I := I) hk hn h n 0 (by omega)
  rw [fl_zero] at h2
  exact h2
theorem fillL_loop {r n : Nat} {v : Int64} (hk : ks[r]? = some (21, n)) (hn : n ≤ 1000) (h : Q none (ks, I, flL L r n v, R)) : ∀ (m k : Nat), k + m = n → J G l yJ7_fill_d0a16 cJ7_fill_d0a16 5 d 0 0 6 [some (.ref r), some (.long v), none, some (.int (Int32.ofNat k)), some (.int (Int32.ofNat n))] [] (ks, I, flL L r k v, R) (fun v w' => jnar none v ∧ Q v w') := by
  intro m
  induction m with
  | zero =>
    intro k hkn
    have hkn : k = n := by omega
    subst hkn
    refine jr_iload_n dJ7_fill_d0a16_6 rfl rfl ?_
    refine jr_iload dJ7_fill_d0a16_7 rfl ?_
    refine jr_icmp_ge dJ7_fill_d0a16_9 (tgt := 22) (by decide) (fun c => ?_) (fun c => ?_)
    · exact jr_return dJ7_fill_d0a16_22 ⟨Or.inl ⟨rfl, rfl⟩, h⟩
    · exact absurd ((jofnat_le (by omega) (by omega)).mpr (Nat.le_refl _)) c
  | succ m ih =>
    intro k hkn
    refine jr_iload_n dJ7_fill_d0a16_6 rfl rfl ?_
    refine jr_iload dJ7_fill_d0a16_7 rfl ?_
    refine jr_icmp_ge dJ7_fill_d0a16_9 (tgt := 22) (by decide) (fun c => ?_) (fun c => ?_)
    · have := (jofnat_le (by omega) (by omega)).mp c
      omega
    · refine jr_aload_n dJ7_fill_d0a16_12 rfl rfl ?_
      refine jr_iload_n dJ7_fill_d0a16_13 rfl rfl ?_
      refine jr_lload_n dJ7_fill_d0a16_14 rfl rfl ?_
      refine jr_lastore (jofnat_nn (by omega)) hk dJ7_fill_d0a16_15 (jofnat_in (by omega) (by omega)) ?_
      rw [flL_succ]
      refine jr_iinc dJ7_fill_d0a16_16 rfl (jofnat_succ k) (by decide) rfl ?_
      refine jr_goto dJ7_fill_d0a16_19 (tgt := 6) (by decide) ?_
      exact ih (k + 1) (by omega)
theorem k_fillL {r n : Nat} {v : Int64} (hk : ks[r]? = some (21, n)) (hn : n ≤ 1000) (h : Q none (ks, I, flL L r n v, R)) : jCall G l yJ7_fill_d0a16 cJ7_fill_d0a16 5 none d 0 0 [.ref r, .long v] (ks, I, L, R) Q := by
  refine jCall_of (n0 := 2) (ls := [some (.ref r), some (.long v), none, none, none]) (by decide +kernel) rfl (Nat.le_of_ble_eq_true rfl) ?_
  refine jr_iconst dJ7_fill_d0a16_0 (v := Int32.ofNat 0) rfl ?_
  refine jr_istore_n dJ7_fill_d0a16_1 rfl (by decide) rfl ?_
  refine jr_aload_n dJ7_fill_d0a16_2 rfl rfl ?_
  refine jr_alen_l hk rfl dJ7_fill_d0a16_3 ?_
  refine jr_istore dJ7_fill_d0a16_4 (by decide) rfl ?_
  have h2 := fillL_loop (G := G) (l := l) (d := d) (L := L) (R := R) (I := I) hk hn h n 0 (by omega)
  rw [flL_zero] at h2
  exact h2
theorem c_fill {r n : Nat} {v : Int32} {Qf : jS → jL → Prop} (hk : jKS[r]? = some (20, n)) (hn : n ≤ 1000) (h : Qf (fl I r n v) L) : cV G l mJ7_fill_53178 d [.ref r, .int v] I L Qf := by
  show jCall G l yJ7_fill_53178 cJ7_fill_53178 4 none d 0 0 _ (jKS, I, L, jR0) _
  exact k_fill hk hn ⟨_, _, rfl, rfl, h⟩
theorem c_fillL {r n : Nat} {v : Int64} {Qf : jS → jL → Prop} (hk : jKS[r]? = some (21, n)) (hn : n ≤ 1000) (h : Qf I (flL L r n v)) : cV G l mJ7_fill_d0a16 d [.ref r, .long v] I L Qf := by
  show jCall G l yJ7_fill_d0a16 cJ7_fill_d0a16 5 none d 0 0 _ (jKS, I, L, jR0) _
  exact k_fillL hk hn ⟨_, _, rfl, rfl, h⟩
end JFL

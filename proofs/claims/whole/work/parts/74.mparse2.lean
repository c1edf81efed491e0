/-! the reference reads operands and the text -/
section MQ
variable {G : jG} {l : Launch} {d : Nat} {I J : jS} {L : jL} {Q : Int32 → jS → jL → Prop} {tx : Nat → Int32} {n op : Nat} {E : lE} {sub subL subO : Nat → zP}
theorem chm_lt {i : Nat} (h : i < n) : chm tx n i = chr tx n i := by
  unfold chm chr
  rw [if_pos h, if_pos h]
theorem MS.up {i : Nat} (h : MS I i op J) (hi : i ≤ 1000) (ho : op ≤ 1000) : MS I (i + 1) (op + 1) (u2 (u2 J 71 17 (J 71 17 + 1)) 71 14 (J 71 14 + 1)) := by
  obtain ⟨a1, a2, a3, a4⟩ := h
  refine ⟨agm (agm a1 (by decide)) (by decide), ?_, ?_, ?_⟩
  · rw [u2e, zadd (by rw [a2, z1]; omega) (by rw [a2, z1]; omega), a2, z1]; omega
  · rw [u2i (by decide), u2i (by decide)]; exact a3
  · rw [u2i (by decide), u2e, zadd (by rw [a4, z1]; omega) (by rw [a4, z1]; omega), a4, z1]; omega
theorem MS.dn {i : Nat} (h : MS I i (op + 1) J) (ho : op ≤ 1000) : MS I i op (u2 J 71 17 (J 71 17 - 1)) := by
  obtain ⟨a1, a2, a3, a4⟩ := h
  refine ⟨agm a1 (by decide), ?_, ?_, ?_⟩
  · rw [u2i (by decide)]; exact a2
  · rw [u2i (by decide)]; exact a3
  · rw [u2e, zsub (by rw [a4, z1]; omega) (by rw [a4, z1]; omega), a4, z1]; omega
theorem MF.dn {w : Nat} {x : Int32} (h : MF I w J) : MF I w (u2 J 71 17 x) := by
  obtain ⟨a1, ⟨i, a2⟩, a3⟩ := h
  refine ⟨agm a1 (by decide), ⟨i, ?_⟩, ?_⟩
  · rw [u2i (by decide)]; exact a2
  · rw [u2i (by decide)]; exact a3
theorem one104D {w : Nat} {x1 x2 : Int32} (h0 : MF I w J) (h : ∀ v J', MF I w J' → Q v J' L) : wX12_one_104 G l d (fun v I' L' => ∃ r, v = some (.int r) ∧ Q r I' L') x1 x2 J L := by
  unfold wX12_one_104
  exact ife (fun _ => ri (h _ _ h0.dn)) (fun _ => ife (fun _ => ri (h _ _ h0.dn)) (fun _ => ife (fun _ => ri (h _ _ h0.dn)) (fun _ => ri (h _ _ h0.dn))))
theorem nm_dig {c : Int32} (h : 0 ≤ (nmOf c).toInt) : digB c = false := by
  unfold nmOf at h
  by_cases q : c = 98
  · subst q; decide
  rw [if_neg q] at h
  by_cases q : c = 109
  · subst q; decide
  rw [if_neg q] at h
  by_cases q : c = 112
  · subst q; decide
  rw [if_neg q] at h
  by_cases q : c = 115
  · subst q; decide
  rw [if_neg q] at h
  by_cases q : c = 116
  · subst q; decide
  rw [if_neg q] at h
  by_cases q : c = 119
  · subst q; decide
  rw [if_neg q] at h
  exact absurd h (by decide)
theorem R_op {D : Nat} {deep : Bool} (hS : Src I tx n) (hE : ∀ k, k < 6 → I 79 k = E k) (hop : op ≤ 6) (hdp : deep = decide (op < 6)) (hgL : deep = true → GD n subL) (hgO : deep = true → GD n subO) (hL : deep = true → RRd G l I L n (op + 1) E mX12_either (D + 2) subL) (hO : deep = true → RRd G l I L n (op + 1) E mX12_one (D + 2) subO) : RRd G l I L n op E mX12_one (D + 3) (pOp tx n subL subO deep) := fun i J Q h0 hi h1 h2 => by
  have hn := hS.2.1
  have h17 := h0.2.2.2
  refine wX12_one_ok ?_
  unfold wX12_one
  rw [if_pos (by rw [h0.2.2.1]; decide)]
  refine tX12_byteAt hS h0.1 h0.2.1 ?_
  unfold pOp at h1 h2
  -- a sign ahead
  have hop6 : deep = true → ¬ J 71 17 = 6 := fun z y => by
    rw [hdp, decide_eq_true_iff] at z
    rw [zeq, h17, zl_6] at y
    omega
  have sgn : ∀ c : Int32, (c = 33 ∨ c = 45) → chr tx n i = c → wX12_one_32 G l (D + 2) (fun v I' L' => ∃ r, v = some (.int r) ∧ Q r I' L') c J L := fun c hcc hc => by
    have hd : ¬ digB c = true := by rcases hcc with rfl | rfl <;> decide
    have hm : ¬ 0 ≤ (nmOf c).toInt := by rcases hcc with rfl | rfl <;> decide
    have h40 : ¬ c = 40 := by rcases hcc with rfl | rfl <;> decide
    have hin : i < n := chr_in hc (by rcases hcc with rfl | rfl <;> decide)
    rw [hc, if_neg hd, if_neg hm] at h1 h2
    unfold wX12_one_32
    by_cases qd : deep = true
    · rw [if_neg (by rw [qd]; decide), if_neg h40, if_pos hcc] at h1 h2
      rw [if_neg (hop6 qd), if_neg h40]
      refine hO qd (i + 1) _ _ (h0.up (by omega) (by omega)) (by omega) (fun qb J1 hM => ?_) (fun qb v J1 hF => ?_)
      · rw [if_pos qb] at h1
        have hfin := h1 rfl _ (hM.dn (by omega))
        simp only at hfin
        unfold wX12_one_83
        rw [if_neg h40]
        unfold wX12_one_104
        rw [if_neg h40]
        refine ife (fun z => ?_) (fun z => ?_)
        · rw [if_pos z] at hfin; exact ri hfin
        · rw [if_neg z] at hfin
          refine ife (fun z2 => ?_) (fun z2 => ?_)
          · rw [if_pos z2] at hfin; exact ri hfin
          · rw [if_neg z2] at hfin; exact ri hfin
      · rw [if_neg (by rw [qb]; decide)] at h2
        unfold wX12_one_83
        rw [if_neg h40]
        exact one104D hF (fun v J' hF' => h2 rfl v J' hF')
    · have qd : deep = false := by simpa using qd
      rw [if_pos qd] at h2
      have : J 71 17 = 6 := by
        rw [hdp, decide_eq_false_iff_not] at qd
        rw [zeq, h17, zl_6]; omega
      rw [if_pos this]
      exact tX12_wrong h0 (fun J' hF => ri (h2 rfl _ J' hF))
  have par : chr tx n i = 40 → wX12_one_32 G l (D + 2) (fun v I' L' => ∃ r, v = some (.int r) ∧ Q r I' L') 40 J L := fun hc => by
    have hin : i < n := chr_in hc (by decide)
    rw [hc, if_neg (by decide), if_neg (by decide)] at h1 h2
    unfold wX12_one_32
    by_cases qd : deep = true
    · rw [if_neg (by rw [qd]; decide), if_pos rfl] at h1 h2
      rw [if_neg (hop6 qd), if_pos rfl]
      have hgl := hgL qd (i + 1) (by omega)
      refine hL qd (i + 1) _ _ (h0.up (by omega) (by omega)) (by omega) (fun qb J1 hM => ?_) (fun qb v J1 hF => ?_)
      · rw [if_pos qb] at h1 h2
        unfold wX12_one_83
        rw [if_pos rfl]
        refine tX12_takes hS hM hgl.2 (by decide) (by decide) (fun qc J2 hM2 => ?_) (fun qc => ?_)
        · rw [if_neg (by decide)]
          rw [if_pos qc] at h1
          unfold wX12_one_104
          rw [if_pos rfl]
          exact ri (h1 rfl _ (hM2.dn (by omega)))
        · rw [if_pos rfl]
          rw [if_neg qc] at h2
          exact tX12_wrong hM (fun J' hF => ri (h2 rfl _ J' hF))
      · rw [if_neg (by rw [qb]; decide)] at h2
        unfold wX12_one_83
        rw [if_pos rfl]
        refine tX12_takesD hF ?_
        rw [if_pos rfl]
        exact tX12_wrongD hF (fun J' hF' => ri (h2 rfl _ J' hF'))
    · have qd : deep = false := by simpa using qd
      rw [if_pos qd] at h2
      have : J 71 17 = 6 := by
        rw [hdp, decide_eq_false_iff_not] at qd
        rw [zeq, h17, zl_6]; omega
      rw [if_pos this]
      exact tX12_wrong h0 (fun J' hF => ri (h2 rfl _ J' hF))
  by_cases q1 : chr tx n i = 33
  · have e : chm tx n i = 33 := (chm_eq (by decide) (by decide)).mpr q1
    rw [e, if_pos rfl]
    exact sgn 33 (Or.inl rfl) q1
  have n1 : ¬ chm tx n i = 33 := fun z => q1 ((chm_eq (by decide) (by decide)).mp z)
  rw [if_neg n1]
  by_cases q2 : chr tx n i = 45
  · have e : chm tx n i = 45 := (chm_eq (by decide) (by decide)).mpr q2
    rw [e, if_pos rfl]
    exact sgn 45 (Or.inr rfl) q2
  have n2 : ¬ chm tx n i = 45 := fun z => q2 ((chm_eq (by decide) (by decide)).mp z)
  rw [if_neg n2]
  by_cases q3 : chr tx n i = 40
  · have e : chm tx n i = 40 := (chm_eq (by decide) (by decide)).mpr q3
    rw [e, if_pos rfl]
    exact par q3
  have n3 : ¬ chm tx n i = 40 := fun z => q3 ((chm_eq (by decide) (by decide)).mp z)
  rw [if_neg n3]
  refine tX12_nameOf ?_
  rw [chm_nm]
  have hb := nmOf_b (c := chr tx n i)
  refine ife (fun qn => ?_) (fun qn => ⟨by rw [zlt, z0] at qn; rw [zin]; omega, ri ?_⟩)
  · rw [zlt, z0] at qn
    by_cases qd : digB (chr tx n i) = true
    · rw [if_pos qd] at h1
      have hin := dig_in qd
      generalize hR : pNum tx n 4 i 0 = R at h1
      have fin : ∀ (v : Int32) (j c : Nat) J1, 1 ≤ c → c ≤ 4 → MS I j op J1 → (j, v) = R → wX12_one_229 G l (D + 2) (fun v I' L' => ∃ r, v = some (.int r) ∧ Q r I' L') v (Int32.ofNat c) J1 L := fun v j c J1 hc hc4 hM he => by
        unfold wX12_one_229
        rw [if_neg (by rw [zeq, z0, zo (by omega)]; omega)]
        rw [← he] at h1
        exact ri (h1 rfl J1 hM)
      have step : ∀ (m c j : Nat) (v : Int32) J1 (k : jS → Prop), c < 4 → MS I j op J1 → j ≤ n → digB (chr tx n j) = true → wX12_one_176 G l (D + 2) (fun v I' L' => ∃ r, v = some (.int r) ∧ Q r I' L') m (v * 10 + chr tx n j - 48) (Int32.ofNat (c + 1)) (u2 J1 71 14 (J1 71 14 + 1)) L → wX12_one_176 G l (D + 2) (fun v I' L' => ∃ r, v = some (.int r) ∧ Q r I' L') (m + 1) v (Int32.ofNat c) J1 L := fun m c j v J1 _ hc hM hj q h => by
        have hinj := dig_in q
        have hq := digB_t.mp q
        unfold wX12_one_176
        rw [if_neg (by rw [zle, zl_4, zo (by omega)]; omega)]
        refine tX12_byteAt hS hM.1 hM.2.1 ?_
        rw [chm_lt hinj, if_neg (by rw [zlt, zl_48]; omega)]
        refine tX12_byteAt hS hM.1 hM.2.1 ?_
        rw [chm_lt hinj, if_neg (by rw [zlt, zl_57]; omega)]
        refine tX12_byteAt hS hM.1 hM.2.1 ?_
        rw [chm_lt hinj, zsucc, Int32.mul_comm 10 v]
        exact h
      have key : ∀ (m c j : Nat) (v : Int32) J1, c + m = 4 → 1 ≤ c → j ≤ n → MS I j op J1 → pNum tx n m j v = R → wX12_one_176 G l (D + 2) (fun v I' L' => ∃ r, v = some (.int r) ∧ Q r I' L') (m + 1) v (Int32.ofNat c) J1 L := by
        intro m
        induction m with
        | zero =>
          intro c j v J1 hc h1c hj hM he
          unfold wX12_one_176
          rw [if_pos (by rw [zle, zl_4, zo (by omega)]; omega)]
          exact fin v j c J1 h1c (by omega) hM he
        | succ m ih =>
          intro c j v J1 hc h1c hj hM he
          unfold pNum at he
          by_cases q : digB (chr tx n j) = true
          · rw [if_pos q] at he
            have hinj := dig_in q
            exact step (m + 1) c j v J1 (fun _ => True) (by omega) hM hj q (ih (c + 1) (j + 1) _ _ (by omega) (by omega) (by omega) (hM.adv (by omega)) he)
          · rw [if_neg q] at he
            have hdm : ¬ digB (chm tx n j) = true := by rw [chm_dig]; exact q
            rw [digB_t] at hdm
            unfold wX12_one_176
            rw [if_neg (by rw [zle, zl_4, zo (by omega)]; omega)]
            refine tX12_byteAt hS hM.1 hM.2.1 ?_
            refine ife (fun _ => fin v j c J1 h1c (by omega) hM he) (fun z => ?_)
            refine tX12_byteAt hS hM.1 hM.2.1 ?_
            rw [zlt, zl_48] at z
            rw [if_pos (by rw [zlt, zl_57]; omega)]
            exact fin v j c J1 h1c (by omega) hM he
      have hR' : pNum tx n 3 (i + 1) (0 * 10 + chr tx n i - 48) = R := by
        rw [← hR]
        show _ = (if digB (chr tx n i) = true then pNum tx n 3 (i + 1) (0 * 10 + chr tx n i - 48) else (i, 0))
        rw [if_pos qd]
      exact ⟨_, step (3 + 1) 0 i 0 J (fun _ => True) (by omega) h0 hi qd (key 3 1 (i + 1) _ _ (by omega) (by omega) (by omega) (h0.adv (by omega)) hR')⟩
    · rw [if_neg qd, if_neg (by omega)] at h2
      have hfail : ∀ v J', MF I i J' → Q v J' L := fun v J' hF => by
        by_cases qdd : deep = false
        · rw [if_pos qdd] at h2; exact h2 rfl v J' hF
        · rw [if_neg qdd, if_neg q3, if_neg (fun z => z.elim q1 q2)] at h2
          exact h2 rfl v J' hF
      have hdm : ¬ digB (chm tx n i) = true := by rw [chm_dig]; exact qd
      rw [digB_t] at hdm
      have fin : wX12_one_229 G l (D + 2) (fun v I' L' => ∃ r, v = some (.int r) ∧ Q r I' L') 0 0 J L := by
        unfold wX12_one_229
        rw [if_pos rfl]
        exact tX12_wrong h0 (fun J' hF => ri (hfail _ J' hF))
      refine ⟨1, ?_⟩
      unfold wX12_one_176
      rw [if_neg (by decide)]
      refine tX12_byteAt hS h0.1 h0.2.1 ?_
      refine ife (fun _ => fin) (fun z => ?_)
      refine tX12_byteAt hS h0.1 h0.2.1 ?_
      rw [zlt, zl_48] at z
      rw [if_pos (by rw [zlt, zl_57]; omega)]
      exact fin
  · rw [zlt, z0] at qn
    have hnm : 0 ≤ (nmOf (chr tx n i)).toInt := by omega
    have hin := nm_in hnm
    have hdd : ¬ digB (chr tx n i) = true := by rw [nm_dig hnm]; decide
    rw [if_neg hdd, if_pos hnm] at h1
    have hfin := h1 rfl _ (h0.adv (by omega))
    simp only at hfin
    rw [h0.1.c 79, znat, hE _ (by omega)]
    exact hfin
theorem R_O (hS : Src I tx n) (htx : ∀ i, i < n → 0 ≤ (tx i).toInt ∧ (tx i).toInt ≤ 255) (hE : ∀ k, k < 6 → I 79 k = E k) : ∀ (k d : Nat), k ≤ 6 → RRd G l I L n (6 - k) E mX12_one (d + 3 + 6 * k) (pO tx n k) := by
  intro k
  induction k with
  | zero =>
    intro d _
    exact R_op (D := d) hS hE (by omega) (by decide) (fun z => absurd z (by decide)) (fun z => absurd z (by decide)) (fun z => absurd z (by decide)) (fun z => absurd z (by decide))
  | succ k ih =>
    intro d hk
    have gk := GD_O htx k
    have hC := ih d (by omega)
    rw [show d + 3 + 6 * k = (d + 1 + 6 * k) + 2 by omega] at hC
    have hC6 := R_E hS gk hC
    have hC2 := ih (d + 5) (by omega)
    rw [show d + 5 + 3 + 6 * k = (d + 6 + 6 * k) + 2 by omega] at hC2
    rw [show d + 1 + 6 * k + 7 = (d + 6 + 6 * k) + 2 by omega] at hC6
    rw [show d + 3 + 6 * (k + 1) = (d + 6 + 6 * k) + 3 by omega]
    have e : 6 - (k + 1) + 1 = 6 - k := by omega
    refine R_op (D := d + 6 + 6 * k) hS hE (by omega) (decide_eq_true (show 6 - (k + 1) < 6 by omega)).symm (fun _ => GD_E gk) (fun _ => gk) (fun _ => ?_) (fun _ => ?_)
    · rw [e]; exact hC6
    · rw [e]; exact hC2
/-- the reference's readers of a text -/
theorem R_X (hS : Src I tx n) (htx : ∀ i, i < n → 0 ≤ (tx i).toInt ∧ (tx i).toInt ≤ 255) (hE : ∀ k, k < 6 → I 79 k = E k) : RRd G l I L n 0 E mX12_either (d + 44) (pE tx n (pO tx n 6)) :=
  R_E (D := d + 37) hS (GD_O htx 6) (R_O hS htx hE 6 d (by omega))
/-- the text worked out -/
theorem tX12_workOut {x1 x2 : Int32} {D : Nat} (hx2 : x2.toInt = n) (hn : n ≤ 120) (hsrc : (x1 = -1 ∧ ∀ i, i < n → I 77 i = tx i) ∨ (x1 = 0 ∧ ∀ i, i < n → I 78 i = tx i)) (hs : GD n sub) (hC : ∀ I', Src I' tx n → (∀ k, I' 79 k = I 79 k) → RRd G l I' L n 0 E mX12_either (D + 2) sub) (hD : ∀ I', Src I' tx n → RDd G l I' L mX12_either (D + 2))
    (h1 : (pT tx n sub 121 0 []).1 = true → ∀ J', ag [] [13, 14, 15, 16, 17] I J' → J' 71 16 = -1 → Q ((pT tx n sub 121 0 []).2.2.2 E) J' L)
    (h2 : (pT tx n sub 121 0 []).1 = false → ∀ v J', ag [] [13, 14, 15, 16, 17] I J' → (J' 71 16).toInt = ((pT tx n sub 121 0 []).2.1 : Nat) → Q v J' L) : cI G l mX12_workOut (D + 3) [.ref 71, .int x1, .int x2] I L Q := by
  refine wX12_workOut_ok ?_
  unfold wX12_workOut
  generalize hI0 : u2 (u2 (u2 (u2 (u2 I 71 13 x1) 71 14 0) 71 15 x2) 71 16 (-1)) 71 17 0 = I0
  have ha0 : ag [] [13, 14, 15, 16, 17] I I0 := by rw [← hI0]; exact agm (agm (agm (agm (agm ag.rf (by decide)) (by decide)) (by decide)) (by decide)) (by decide)
  have e13 : I0 71 13 = x1 := by rw [← hI0, u2i (by decide), u2i (by decide), u2i (by decide), u2i (by decide), u2e]
  have e14 : I0 71 14 = 0 := by rw [← hI0, u2i (by decide), u2i (by decide), u2i (by decide), u2e]
  have e15 : I0 71 15 = x2 := by rw [← hI0, u2i (by decide), u2i (by decide), u2e]
  have e16 : I0 71 16 = -1 := by rw [← hI0, u2i (by decide), u2e]
  have e17 : I0 71 17 = 0 := by rw [← hI0, u2e]
  have hS : Src I0 tx n := by
    refine ⟨by rw [e15]; exact hx2, hn, ?_⟩
    rcases hsrc with ⟨b, t⟩ | ⟨b, t⟩
    · exact Or.inl ⟨by rw [e13]; exact b, fun i hi => by rw [ha0.c 77]; exact t i hi⟩
    · exact Or.inr ⟨by rw [e13]; exact b, fun i hi => by rw [ha0.c 78]; exact t i hi⟩
  have hM0 : MS I0 0 0 I0 := ⟨ag.rf, by rw [e14]; rfl, e16, by rw [e17]; rfl⟩
  have hC := hC I0 hS (fun k => by rw [ha0.c 79])
  have hD := hD I0 hS
  have up : ∀ J', ag [] [14, 16, 17] I0 J' → ag [] [13, 14, 15, 16, 17] I J' := fun J' h => ha0.th h
  generalize hR : pT tx n sub 121 0 [] = R at h1 h2
  -- a fault
  have bad0 : ∀ m x3 x4 J w, MF I0 w J → R.1 = false → w = R.2.1 → wX12_workOut_33 G l (D + 2) (fun v I' L' => ∃ r, v = some (.int r) ∧ Q r I' L') (m + 1) x3 x4 0 J L := fun m x3 x4 J w hF q hw => by
    unfold wX12_workOut_33
    rw [if_pos rfl, if_pos hF.ge]
    exact ri (h2 q _ J (up J hF.1) (by rw [hF.2.2, hw]))
  have bad : ∀ m x3 x4 x6 x7 J w, MF I0 w J → R.1 = false → w = R.2.1 → wX12_workOut_74 G l (D + 2) (fun z0 z1 z2 I L => wX12_workOut_33 G l (D + 2) (fun v I' L' => ∃ r, v = some (.int r) ∧ Q r I' L') (m + 1) z0 z1 z2 I L) (fun v I' L' => ∃ r, v = some (.int r) ∧ Q r I' L') x3 x4 x6 x7 J L := fun m x3 x4 x6 x7 J w hF q hw => by
    unfold wX12_workOut_74
    rw [if_pos hF.ge]
    unfold wX12_workOut_96
    exact tX12_takesD hF (bad0 m _ _ J w hF q hw)
  have loop : ∀ (f i : Nat) (cs : List Int32) J (x3 x4 : Int32), 121 ≤ f + i → i ≤ n → cs.length ≤ i → MS I0 i 0 J → (x3 = 0 ∧ x4 = 0 ∨ x3 = 1) → (pT tx n sub f i cs).1 = R.1 → (pT tx n sub f i cs).2.1 = R.2.1 → (R.1 = true → R.2.2.2 E = if x3 = 0 then (pT tx n sub f i cs).2.2.2 E else x4) → wX12_workOut_33 G l (D + 2) (fun v I' L' => ∃ r, v = some (.int r) ∧ Q r I' L') (f + 1) x3 x4 1 J L := by
    intro f
    induction f with
    | zero => intro i cs J x3 x4 hf hi; omega
    | succ f ih =>
      intro i cs J x3 x4 hf hi hcs hM hx3 he1 he2 hv
      have hGL := GLn (tx := tx) (s := cs.length) hs hi
      unfold wX12_workOut_33
      rw [if_neg (by decide)]
      have x30 : x3 = 0 ∨ x3 = 1 := hx3.elim (fun z => Or.inl z.1) Or.inr
      -- behind a line that holds or not
      have tail : ∀ (J1 : jS) (c v x7 : Int32), (pLn tx n sub cs.length i).1 = true → (pLn tx n sub cs.length i).2.2.2.1 E = c → (pLn tx n sub cs.length i).2.2.2.2 E = v → (x7 = 0 ↔ c = 0) → MS I0 (pLn tx n sub cs.length i).2.1 0 J1 → wX12_workOut_74 G l (D + 2) (fun z0 z1 z2 I L => wX12_workOut_33 G l (D + 2) (fun v I' L' => ∃ r, v = some (.int r) ∧ Q r I' L') (f + 1) z0 z1 z2 I L) (fun v I' L' => ∃ r, v = some (.int r) ∧ Q r I' L') x3 x4 v x7 J1 L := fun J1 c v x7 hok hc hvv hx7 hM1 => by
        obtain ⟨a1, a2, a3⟩ := hGL.1 hok
        unfold pT at he1 he2 hv
        rw [if_pos hok] at he1 he2 hv
        have nxt : ∀ y3 y4 : Int32, (y3 = 0 ∧ y4 = 0 ∨ y3 = 1) → (∀ w : Int32, (if y3 = 0 then w else y4) = (if x3 = 0 then (if c = 0 then w else v) else x4)) → wX12_workOut_96 G l (D + 2) (fun z0 z1 z2 I L => wX12_workOut_33 G l (D + 2) (fun v I' L' => ∃ r, v = some (.int r) ∧ Q r I' L') (f + 1) z0 z1 z2 I L) (fun v I' L' => ∃ r, v = some (.int r) ∧ Q r I' L') y3 y4 J1 L := fun y3 y4 hy3 hw => by
          unfold wX12_workOut_96
          refine tX12_takes hS hM1 hGL.2 (by decide) (by decide) (fun qc J2 hM2 => ?_) (fun qc => ?_)
          · rw [if_pos qc] at he1 he2 hv
            have hin := chr_in qc (by decide)
            refine ih _ _ J2 y3 y4 (by omega) (by omega) (by rw [List.length_append]; omega) hM2 hy3 he1 he2 (fun hok2 => ?_)
            have := hv hok2
            simp only at this
            rw [hc, hvv] at this
            rw [this]
            exact (hw _).symm
          · rw [if_neg qc] at he1 he2 hv
            unfold wX12_workOut_33
            rw [if_pos rfl, if_neg hM1.ge]
            have e14' := hM1.2.1
            have e15' : (J1 71 15).toInt = n := by rw [hM1.1.m 15, e15]; exact hx2
            refine ife (fun z => ri ?_) (fun z => ?_)
            · rw [zle, e15', e14'] at z
              have hz : ¬ (pLn tx n sub cs.length i).2.1 < n := by omega
              rw [if_neg hz] at he1 hv
              have hok2 : R.1 = true := he1.symm
              have this : R.2.2.2 E = if x3 = 0 then (if (pLn tx n sub cs.length i).2.2.2.1 E = 0 then 0 else (pLn tx n sub cs.length i).2.2.2.2 E) else x4 := hv hok2
              rw [hc, hvv, ← hw 0] at this
              have hy4 : (if y3 = 0 then (0 : Int32) else y4) = y4 := by
                rcases hy3 with ⟨p1, p2⟩ | p1
                · rw [if_pos p1, p2]
                · rw [if_neg (by rw [p1]; decide)]
              rw [hy4] at this
              rw [← this]
              exact h1 hok2 J1 (up J1 hM1.1) hM1.2.2.1
            · rw [zle, e15', e14'] at z
              have hz : (pLn tx n sub cs.length i).2.1 < n := by omega
              rw [if_pos hz] at he1 he2
              refine tX12_wrong hM1 (fun J2 hF => ri (h2 he1.symm _ J2 (up J2 hF.1) ?_))
              rw [hF.2.2, ← he2]
              rfl
        unfold wX12_workOut_74
        rw [if_neg hM1.ge]
        refine ife (fun z => nxt x3 x4 hx3 (fun w => ?_)) (fun z => ife (fun z2 => nxt 1 v (Or.inr rfl) (fun w => ?_)) (fun z2 => nxt x3 x4 hx3 (fun w => ?_)))
        · rw [if_pos (hx7.mp z)]
        · rw [if_neg (by decide), if_pos z2, if_neg (fun y => z (hx7.mpr y))]
        · rw [if_neg z2, if_neg z2]
      have fail1 : (pLn tx n sub cs.length i).1 = false → R.1 = false ∧ (pLn tx n sub cs.length i).2.1 = R.2.1 := fun q => by
        unfold pT at he1 he2
        rw [if_neg (by rw [q]; decide)] at he1 he2
        exact ⟨he1.symm, he2⟩
      refine hC i J _ hM hi (fun qa J1 hM1 => ?_) (fun qa v J1 hF => ?_)
      · have hgr := hs i hi
        refine tX12_takes hS hM1 hgr.2 (by decide) (by decide) (fun q2 J2 hM2 => ?_) (fun q2 => ?_)
        · rw [if_neg (by decide)]
          have hin := chr_in q2 (by decide)
          have hLn : pLn tx n sub cs.length i = ((sub ((sub i).2.1 + 1)).1, (sub ((sub i).2.1 + 1)).2.1, (sub i).2.2.1 ++ ((13000 + Int32.ofNat (cs.length + ((sub i).2.2.1.length + ((sub ((sub i).2.1 + 1)).2.2.1.length + 2)))) :: ((sub ((sub i).2.1 + 1)).2.2.1 ++ [12000])), (sub i).2.2.2, (sub ((sub i).2.1 + 1)).2.2.2) := by
            unfold pLn
            rw [if_pos qa, if_pos q2]
          rw [hLn] at tail fail1
          simp only at tail fail1
          have second : ∀ t0 : Int32, (t0 = 0 ↔ (sub i).2.2.2 E = 0) → wX12_workOut_66 G l (D + 2) (fun z0 z1 z2 I L => wX12_workOut_33 G l (D + 2) (fun v I' L' => ∃ r, v = some (.int r) ∧ Q r I' L') (f + 1) z0 z1 z2 I L) (fun v I' L' => ∃ r, v = some (.int r) ∧ Q r I' L') x3 x4 t0 J2 L := fun t0 ht0 => by
            unfold wX12_workOut_66
            refine hC ((sub i).2.1 + 1) _ _ hM2 (by omega) (fun qb J3 hM3 => ?_) (fun qb v J3 hF => ?_)
            · exact tail J3 _ _ t0 qb rfl rfl ht0 hM3
            · obtain ⟨f1, f2⟩ := fail1 qb
              exact bad f _ _ _ _ J3 _ hF f1 f2
          refine ife (fun z => second 0 ⟨fun _ => z, fun _ => rfl⟩) (fun z => second 1 ⟨fun y => absurd y (by decide), fun y => absurd y z⟩)
        · rw [if_pos rfl]
          have hLn : pLn tx n sub cs.length i = (true, (sub i).2.1, (sub i).2.2.1 ++ [12000], fun _ => 1, (sub i).2.2.2) := by
            unfold pLn
            rw [if_pos qa, if_neg q2]
          rw [hLn] at tail
          simp only at tail
          exact tail J1 1 _ 1 trivial rfl rfl Iff.rfl hM1
      · have hLn : pLn tx n sub cs.length i = (false, (sub i).2.1, [], fun _ => 0, fun _ => 0) := by
          unfold pLn
          rw [if_neg (by rw [qa]; decide)]
        rw [hLn] at fail1
        obtain ⟨f1, f2⟩ := fail1 rfl
        refine tX12_takesD hF ?_
        rw [if_pos rfl]
        exact bad f _ _ _ _ J1 _ hF f1 f2
  exact ⟨_, loop 121 0 [] I0 0 0 (by omega) (by omega) (by simp) hM0 (Or.inl ⟨rfl, rfl⟩) (by rw [hR]) (by rw [hR]) (fun _ => by rw [hR, if_pos rfl])⟩
end MQ

/-! the class reads operands, lines, the text -/
section CQ
variable {G : jG} {l : Launch} {d : Nat} {I J : jS} {L : jL} {Q : Int32 → jS → jL → Prop} {Qv : jS → jL → Prop} {tx : Nat → Int32} {n : Nat} {sub subL subO : Nat → zP}
theorem PS.adv {i dr : Nat} (h : PS I i dr J) (hi : i ≤ 1000) : PS I (i + 1) dr (u2 J 17 6 (J 17 6 + 1)) := by
  obtain ⟨a1, a2, a3, a4, a5, a6⟩ := h
  refine ⟨agu a1 (by decide) (by decide), ?_, ?_, ?_, ?_, ?_⟩
  · rw [u2i (by decide)]; exact a2
  · rw [u2i (by decide)]; exact a3
  · rw [u2e, zadd (by rw [a4, z1]; omega) (by rw [a4, z1]; omega), a4, z1]; omega
  · rw [u2i (by decide)]; exact a5
  · rw [u2i (by decide)]; exact a6
theorem DR.u17 {dr : Nat} {cs : List Int32} {J1 : jS} {y : Int32} {z : Nat} (h : DR J dr cs J1) : DR J dr cs (u2 J1 17 z y) := ⟨fun j hj => by rw [u2n (by decide)]; exact h.1 j hj, fun j hj => by rw [u2n (by decide)]; exact h.2 j hj⟩
theorem DR.u17' {dr : Nat} {cs : List Int32} {J1 : jS} {y : Int32} {z : Nat} (h : DR (u2 J 17 z y) dr cs J1) : DR J dr cs J1 := ⟨fun j hj => by rw [h.1 j hj, u2n (by decide)], h.2⟩
theorem tX6_readNumber {i dr : Nat} (hT : Tx I tx n) (h0 : PS I i dr J) (hi : i ≤ n) (hd : dr ≤ 120) (h : ∀ J', PS I (pNum tx n 4 i 0).1 (dr + 1) J' → DR J dr [(pNum tx n 4 i 0).2] J' → Qv J' L) : cV G l mX6_readNumber (d + 2) [.ref 17] J L Qv := by
  have hn := hT.2.1
  refine wX6_readNumber_ok (Q := fun v I' L' => v = none ∧ Qv I' L') ?_
  unfold wX6_readNumber
  generalize hR : pNum tx n 4 i 0 = R at h
  have fin : ∀ (v : Int32) (i : Nat) J1, PS I i dr J1 → DR J dr [] J1 → (i, v) = R → wX6_readNumber_48 G l (d + 1) (fun v I' L' => v = none ∧ Qv I' L') v J1 L := fun v i J1 hP hDR he => by
    unfold wX6_readNumber_48
    refine tX6_emit hP hd (fun J2 hP2 hDR2 => ⟨rfl, ?_⟩)
    rw [← he] at h
    exact h J2 hP2 (hDR.app hDR2)
  have key : ∀ (m c i : Nat) (v : Int32) J1, c + m = 4 → i ≤ n → PS I i dr J1 → DR J dr [] J1 → pNum tx n m i v = R → wX6_readNumber_4 G l (d + 1) (fun v I' L' => v = none ∧ Qv I' L') (m + 1) v (Int32.ofNat c) J1 L := by
    intro m
    induction m with
    | zero =>
      intro c i v J1 hc hi hP hDR he
      unfold wX6_readNumber_4
      rw [if_pos (by rw [zle, zl_4, zo (by omega)]; omega)]
      exact fin v i J1 hP hDR he
    | succ m ih =>
      intro c i v J1 hc hi hP hDR he
      unfold wX6_readNumber_4
      rw [if_neg (by rw [zle, zl_4, zo (by omega)]; omega)]
      refine tX6_next hT hP (tX6_isDigit ?_)
      unfold pNum at he
      refine ifz (fun q => ?_) (fun q => ?_)
      · rw [if_neg q] at he
        exact fin v i J1 hP hDR he
      · rw [if_pos q] at he
        have hin := dig_in q
        refine tX6_next hT hP ?_
        rw [zsucc]
        exact ih (c + 1) (i + 1) _ _ (by omega) (by omega) (hP.adv (by omega)) hDR.u17 he
  exact ⟨_, key 4 0 i 0 J (by omega) hi h0 DR.rf hR⟩
theorem C_op {D op : Nat} {x : Int32} {deep : Bool} (hT : Tx I tx n) (hx : x.toInt = op) (hop : op ≤ 6) (hdp : deep = decide (op < 6)) (hL : deep = true → GD n subL ∧ CRd G l I L n mX6_readLevel (D + 2) [.ref 17, .int (Int32.ofNat 0), .int (x + 1)] subL ∧ CDd G l I L mX6_readLevel (D + 2) [.ref 17, .int (Int32.ofNat 0), .int (x + 1)]) (hO : deep = true → GD n subO ∧ CRd G l I L n mX6_readOperand (D + 2) [.ref 17, .int (x + 1)] subO ∧ CDd G l I L mX6_readOperand (D + 2) [.ref 17, .int (x + 1)]) :
    CRd G l I L n mX6_readOperand (D + 3) [.ref 17, .int x] (pOp tx n subL subO deep) := fun i dr J Qv h0 hi hd h1 h2 => by
  have hn := hT.2.1
  refine wX6_readOperand_ok (Q := fun v I' L' => v = none ∧ Qv I' L') ?_
  unfold wX6_readOperand
  refine tX6_next hT h0 (tX6_isDigit ?_)
  unfold pOp at h1 h2
  refine ifz (fun q1 => ?_) (fun q1 => ?_)
  · rw [if_neg q1] at h1 h2
    have hb := nmOf_b (c := chr tx n i)
    refine tX6_nameOf ?_
    refine ife (fun q2 => ?_) (fun q2 => ?_)
    · rw [zlt, z0] at q2
      rw [if_neg (by omega)] at h1 h2
      refine ife (fun q3 => ?_) (fun q3 => ?_)
      · rw [zlt, zl_6, hx] at q3
        have hdt : deep = true := by rw [hdp]; exact decide_eq_true (by omega)
        rw [if_neg (by rw [hdt]; decide)] at h1 h2
        have neg1 : ∀ q5 : chr tx n i = 33 ∨ chr tx n i = 45, ¬ chr tx n i = 40 → wX6_readOperand_129 G l (D + 2) (fun v I' L' => v = none ∧ Qv I' L') x (chr tx n i) J L := fun q5 q4 => by
          rw [if_neg q4, if_pos q5] at h1 h2
          have hin : i < n := by
            rcases q5 with z | z
            · exact chr_in z (by decide)
            · exact chr_in z (by decide)
          obtain ⟨gO, cO, dO⟩ := hO hdt
          unfold wX6_readOperand_129
          refine cO (i + 1) dr _ _ (h0.adv (by omega)) (by omega) (by omega) (fun qb J1 hP hDR => ?_) (fun qb J1 hF => ?_)
          · obtain ⟨b1, b2, b3, b4⟩ := (gO (i + 1) (by omega)).1 qb
            rw [if_pos qb] at h1
            refine ife (fun q7 => ?_) (fun q7 => ?_)
            · unfold wX6_readOperand_163
              refine tX6_emit hP (by omega) (fun J2 hP2 hDR2 => ⟨rfl, h1 rfl J2 ?_ ?_⟩)
              · simp only [List.length_append, List.length_cons, List.length_nil]
                rw [← Nat.add_assoc]; exact hP2
              · simp only [if_pos q7]
                exact hDR.u17'.app hDR2
            · unfold wX6_readOperand_163
              refine tX6_emit hP (by omega) (fun J2 hP2 hDR2 => ⟨rfl, h1 rfl J2 ?_ ?_⟩)
              · simp only [List.length_append, List.length_cons, List.length_nil]
                rw [← Nat.add_assoc]; exact hP2
              · simp only [if_neg q7]
                exact hDR.u17'.app hDR2
          · rw [if_neg (by rw [qb]; decide)] at h2
            unfold wX6_readOperand_163
            exact ife (fun _ => tX6_emitD hF (fun J2 hF2 => ⟨rfl, h2 rfl J2 hF2⟩)) (fun _ => tX6_emitD hF (fun J2 hF2 => ⟨rfl, h2 rfl J2 hF2⟩))
        refine ife (fun q4 => ?_) (fun q4 => ife (fun q5 => neg1 (Or.inl q5) q4) (fun q5 => ife (fun q6 => neg1 (Or.inr q6) q4) (fun q6 => ?_)))
        · rw [if_pos q4] at h1 h2
          have hin := chr_in q4 (by decide)
          obtain ⟨gL, cL, dL⟩ := hL hdt
          refine cL (i + 1) dr _ _ (h0.adv (by omega)) (by omega) (by omega) (fun qb J1 hP hDR => ?_) (fun qb J1 hF => ?_)
          · obtain ⟨b1, b2, b3, b4⟩ := (gL (i + 1) (by omega)).1 qb
            rw [if_pos qb] at h1 h2
            refine tX6_next hT hP ?_
            refine ife (fun q7 => ⟨rfl, ?_⟩) (fun q7 => tX6_spoil hP (fun J2 hF => ⟨rfl, ?_⟩))
            · rw [if_pos q7] at h1
              exact h1 rfl _ (hP.adv (by omega)) hDR.u17'.u17
            · rw [if_neg q7] at h2
              exact h2 rfl J2 hF
          · rw [if_neg (by rw [qb]; decide)] at h2
            refine tX6_nextD hF ?_
            rw [if_neg (by decide)]
            exact tX6_spoilD hF (fun J2 hF2 => ⟨rfl, h2 rfl J2 hF2⟩)
        · rw [if_neg q4, if_neg (fun z => z.elim q5 q6)] at h2
          exact tX6_spoil h0 (fun J2 hF => ⟨rfl, h2 rfl J2 hF⟩)
      · rw [zlt, zl_6, hx] at q3
        have hdf : deep = false := by rw [hdp]; exact decide_eq_false (by omega)
        rw [if_pos hdf] at h2
        exact tX6_spoil h0 (fun J2 hF => ⟨rfl, h2 rfl J2 hF⟩)
    · rw [zlt, z0] at q2
      rw [if_pos (by omega)] at h1
      have hin := nm_in (show 0 ≤ (nmOf (chr tx n i)).toInt by omega)
      refine tX6_nameOf (tX6_emit (h0.adv (by omega)) (by omega) (fun J2 hP2 hDR2 => ⟨rfl, h1 rfl J2 hP2 hDR2.u17'⟩))
  · rw [if_pos q1] at h1
    exact tX6_readNumber hT h0 hi (by omega) (fun J2 hP2 hDR2 => ⟨rfl, h1 rfl J2 hP2 hDR2⟩)
theorem C_O (hT : Tx I tx n) : ∀ (k d : Nat) (x : Int32), k ≤ 6 → x.toInt = ((6 - k : Nat) : Int) → CRd G l I L n mX6_readOperand (d + 3 + 7 * k) [.ref 17, .int x] (pO tx n k) := by
  intro k
  induction k with
  | zero =>
    intro d x _ hx
    exact C_op (D := d) hT hx (by omega) (by decide) (fun z => absurd z (by decide)) (fun z => absurd z (by decide))
  | succ k ih =>
    intro d x hk hx
    have hx1 : (x + 1).toInt = ((6 - k : Nat) : Int) := by rw [zadd (by rw [hx, z1]; omega) (by rw [hx, z1]; omega), hx, z1]; omega
    have hC := ih d (x + 1) (by omega) hx1
    have hD : CDd G l I L mX6_readOperand (d + 3 + 7 * k) [.ref 17, .int (x + 1)] := by
      rw [show d + 3 + 7 * k = (d + 1 + 7 * k) + 2 by omega]
      exact D_op
    have gk := GD_O hT.2.2.2 k
    have hC6 := C_E hT gk hC hD
    have hD6 := D_E hD
    have hC2 := ih (d + 6) (x + 1) (by omega) hx1
    rw [show d + 3 + 7 * (k + 1) = (d + 7 + 7 * k) + 3 by omega]
    have e1 : d + 3 + 7 * k + 6 = (d + 7 + 7 * k) + 2 := by omega
    have e2 : d + 6 + 3 + 7 * k = (d + 7 + 7 * k) + 2 := by omega
    rw [e1] at hC6 hD6
    rw [e2] at hC2
    exact C_op (D := d + 7 + 7 * k) hT hx (by omega) (decide_eq_true (show 6 - (k + 1) < 6 by omega)).symm (fun _ => ⟨GD_E gk, hC6, hD6⟩) (fun _ => ⟨gk, hC2, D_op⟩)
/-- the class's readers of a text -/
theorem C_X (hT : Tx I tx n) : CRd G l I L n mX6_readLevel (d + 51) [.ref 17, .int 0, .int 0] (pE tx n (pO tx n 6)) ∧ CDd G l I L mX6_readLevel (d + 51) [.ref 17, .int 0, .int 0] :=
  ⟨C_E (D := d + 45) hT (GD_O hT.2.2.2 6) (C_O hT 6 d 0 (by omega) (by decide)) D_op, D_E (D := d + 45) D_op⟩
theorem tX6_readLine {D i dr : Nat} (hT : Tx I tx n) (hs : GD n sub) (hC : CRd G l I L n mX6_readLevel (D + 1) [.ref 17, .int 0, .int 0] sub) (hD : CDd G l I L mX6_readLevel (D + 1) [.ref 17, .int 0, .int 0]) (h0 : PS I i dr J) (hi : i ≤ n) (hd : dr ≤ i)
    (h1 : (pLn tx n sub dr i).1 = true → chr tx n (pLn tx n sub dr i).2.1 = 59 → ∀ J', PS I ((pLn tx n sub dr i).2.1 + 1) (dr + (pLn tx n sub dr i).2.2.1.length) J' → DR J dr (pLn tx n sub dr i).2.2.1 J' → Q 1 J' L)
    (h2 : (pLn tx n sub dr i).1 = true → ¬ chr tx n (pLn tx n sub dr i).2.1 = 59 → ∀ J', PS I (pLn tx n sub dr i).2.1 (dr + (pLn tx n sub dr i).2.2.1.length) J' → DR J dr (pLn tx n sub dr i).2.2.1 J' → Q 0 J' L)
    (h3 : (pLn tx n sub dr i).1 = false → ∀ J', PF I (pLn tx n sub dr i).2.1 J' → Q 0 J' L) : cI G l mX6_readLine (D + 2) [.ref 17] J L Q := by
  have hn := hT.2.1
  have hGL := GLn (tx := tx) (s := dr) hs hi
  -- behind the line's codes
  have tail : (pLn tx n sub dr i).1 = true → ∀ J', PS I (pLn tx n sub dr i).2.1 (dr + (pLn tx n sub dr i).2.2.1.length) J' → DR J dr (pLn tx n sub dr i).2.2.1 J' → wX6_readLine_87 G l (D + 1) (fun v I' L' => ∃ r, v = some (.int r) ∧ Q r I' L') J' L := fun q J' hP hDR => by
    unfold wX6_readLine_87
    refine tX6_next hT hP ?_
    refine ife (fun q2 => ri (h1 q q2 _ (hP.adv (by have := hGL.2; omega)) hDR.u17)) (fun q2 => ri (h2 q q2 _ hP hDR))
  have tailD : (pLn tx n sub dr i).1 = false → ∀ J', PF I (pLn tx n sub dr i).2.1 J' → wX6_readLine_87 G l (D + 1) (fun v I' L' => ∃ r, v = some (.int r) ∧ Q r I' L') J' L := fun q J' hF => by
    unfold wX6_readLine_87
    refine tX6_nextD hF ?_
    rw [if_neg (by decide)]
    exact ri (h3 q J' hF)
  refine wX6_readLine_ok ?_
  unfold wX6_readLine
  refine hC i dr J _ h0 hi hd (fun qa J1 hP1 hDR1 => ?_) (fun qa J1 hF1 => ?_)
  · obtain ⟨a1, a2, a3, a4⟩ := (hs i hi).1 qa
    refine tX6_next hT hP1 ?_
    refine ife (fun q2 => ?_) (fun q2 => ?_)
    · have hin := chr_in q2 (by decide)
      have hLn : pLn tx n sub dr i = ((sub ((sub i).2.1 + 1)).1, (sub ((sub i).2.1 + 1)).2.1, (sub i).2.2.1 ++ ((13000 + Int32.ofNat (dr + ((sub i).2.2.1.length + ((sub ((sub i).2.1 + 1)).2.2.1.length + 2)))) :: ((sub ((sub i).2.1 + 1)).2.2.1 ++ [12000])), (sub i).2.2.2, (sub ((sub i).2.1 + 1)).2.2.2) := by
        unfold pLn
        rw [if_pos qa, if_pos q2]
      rw [hLn] at tail tailD
      simp only at tail tailD
      unfold wX6_readLine_20
      rw [if_neg (by decide)]
      have hP1a := hP1.adv (show (sub i).2.1 ≤ 1000 by omega)
      refine tX6_emit hP1a (by omega) (fun J2 hP2 hDR2 => ?_)
      have hDR12 : DR J dr ((sub i).2.2.1 ++ [13000]) J2 := hDR1.app hDR2.u17'
      have h8 : (J1 17 8).toInt = ((dr + (sub i).2.2.1.length : Nat) : Int) := hP1.2.2.2.2.2
      have hn8 : (J1 17 8).toNatClampNeg = dr + (sub i).2.2.1.length := by rw [znat, h8]; omega
      refine hC ((sub i).2.1 + 1) (dr + (sub i).2.2.1.length + 1) J2 _ hP2 (by omega) (by omega) (fun qb J3 hP3 hDR3 => ?_) (fun qb J3 hF3 => ?_)
      · obtain ⟨b1, b2, b3, b4⟩ := (hs ((sub i).2.1 + 1) (by omega)).1 qb
        unfold wX6_readLine_53
        refine tX6_emit hP3 (by omega) (fun J4 hP4 hDR4 => ?_)
        rw [if_neg (by decide), if_neg (by rw [zle, zl_121, h8]; omega)]
        refine ⟨by rw [zin, h8]; omega, ?_⟩
        rw [hn8]
        have h48 : J4 17 8 = Int32.ofNat (dr + ((sub i).2.2.1.length + ((sub ((sub i).2.1 + 1)).2.2.1.length + 2))) := by
          refine zof ?_
          rw [hP4.2.2.2.2.2]
          omega
        rw [h48]
        have hDRa : DR J dr (((sub i).2.2.1 ++ [13000]) ++ ((sub ((sub i).2.1 + 1)).2.2.1 ++ [12000])) J4 := by
          have eL : dr + ((sub i).2.2.1 ++ [(13000 : Int32)]).length = dr + (sub i).2.2.1.length + 1 := by simp; omega
          refine hDR12.app (DR.app (J1 := J3) ?_ ?_)
          · rw [eL]; exact hDR3
          · rw [eL]; exact hDR4
        refine tail qb _ ?_ ?_
        · obtain ⟨c1, c2, c3, c4, c5, c6⟩ := hP4
          refine ⟨agu c1 (by decide) (by decide), ?_, ?_, ?_, ?_, ?_⟩
          · rw [u2n (by decide)]; exact c2
          · rw [u2n (by decide)]; exact c3
          · rw [u2n (by decide)]; exact c4
          · rw [u2n (by decide)]; exact c5
          · rw [u2n (by decide), c6]
            simp only [List.length_append, List.length_cons, List.length_nil]
            omega
        · refine ⟨fun j hj => ?_, fun j hj => ?_⟩
          · rw [u2i (by omega)]; exact hDRa.1 j hj
          · simp only [List.length_append, List.length_cons, List.length_nil] at hj
            by_cases q3 : j < (sub i).2.2.1.length
            · rw [u2i (by omega), hDRa.2 j (by simp only [List.length_append, List.length_cons, List.length_nil]; omega), List.append_assoc, gapp q3, gapp q3]
            · by_cases q4 : j = (sub i).2.2.1.length
              · subst q4
                rw [u2e]
                exact (gapp2 (a := (sub i).2.2.1) (b := ((13000 + Int32.ofNat (dr + ((sub i).2.2.1.length + ((sub ((sub i).2.1 + 1)).2.2.1.length + 2)))) :: ((sub ((sub i).2.1 + 1)).2.2.1 ++ [12000]))) (j := 0)).symm
              · obtain ⟨t, rfl⟩ : ∃ t, j = (sub i).2.2.1.length + (t + 1) := ⟨j - (sub i).2.2.1.length - 1, by omega⟩
                rw [u2i (by omega), hDRa.2 _ (by simp only [List.length_append, List.length_cons, List.length_nil]; omega), List.append_assoc, gapp2, gapp2]
                rfl
      · unfold wX6_readLine_53
        refine tX6_emitD hF3 (fun J4 hF4 => ?_)
        rw [if_neg (by decide), if_neg (by rw [zle, zl_121, h8]; omega)]
        refine ⟨by rw [zin, h8]; omega, tailD qb _ ?_⟩
        obtain ⟨c1, c2, c3, c4⟩ := hF4
        refine ⟨agu c1 (by decide) (by decide), ?_, ?_, ?_⟩
        · rw [u2n (by decide)]; exact c2
        · rw [u2n (by decide)]; exact c3
        · rw [u2n (by decide)]; exact c4
    · have hLn : pLn tx n sub dr i = (true, (sub i).2.1, (sub i).2.2.1 ++ [12000], fun _ => 1, (sub i).2.2.2) := by
        unfold pLn
        rw [if_pos qa, if_neg q2]
      rw [hLn] at tail
      simp only at tail
      unfold wX6_readLine_20
      rw [if_pos rfl]
      unfold wX6_readLine_53
      refine tX6_emit hP1 (by omega) (fun J2 hP2 hDR2 => ?_)
      rw [if_pos rfl]
      refine tail trivial J2 ?_ (hDR1.app hDR2)
      rw [List.length_append, ← Nat.add_assoc]
      exact hP2
  · have hLn : pLn tx n sub dr i = (false, (sub i).2.1, [], fun _ => 0, fun _ => 0) := by
      unfold pLn
      rw [if_neg (by rw [qa]; decide)]
    rw [hLn] at tailD
    simp only at tailD
    refine tX6_nextD hF1 ?_
    rw [if_neg (by decide)]
    unfold wX6_readLine_20
    rw [if_pos rfl]
    unfold wX6_readLine_53
    refine tX6_emitD hF1 (fun J2 hF2 => ?_)
    rw [if_pos rfl]
    exact tailD trivial J2 hF2
/-- the text read whole -/
theorem tX6_read (hT : Tx I tx n) (hs : GD n sub) {D : Nat} (hC : ∀ I', Tx I' tx n → CRd G l I' L n mX6_readLevel (D + 1) [.ref 17, .int 0, .int 0] sub) (hD : ∀ I', CDd G l I' L mX6_readLevel (D + 1) [.ref 17, .int 0, .int 0])
    (h1 : (pT tx n sub 121 0 []).1 = true → ∀ J', ag [17, 19, 20] [] I J' → J' 17 5 = 0 → (J' 17 9).toInt = ((pT tx n sub 121 0 []).2.2.1.length : Nat) → (∀ j, j < (pT tx n sub 121 0 []).2.2.1.length → J' 20 j = (pT tx n sub 121 0 []).2.2.1.getD j 0) → Q (-1) J' L)
    (h2 : (pT tx n sub 121 0 []).1 = false → ∀ (r : Int32) J', r.toInt = ((pT tx n sub 121 0 []).2.1 : Nat) → ag [17, 19] [] I J' → J' 17 5 = 0 → J' 17 9 = I 17 9 → Q r J' L) : cI G l mX6_read (D + 3) [.ref 17] I L Q := by
  have hn := hT.2.1
  have hb0 := PT_b (tx := tx) hs 121 0 [] (by omega) (by simp)
  refine wX6_read_ok ?_
  unfold wX6_read
  generalize hI0 : u2 (u2 (u2 I 17 6 0) 17 7 (-1)) 17 8 0 = I0
  have ha0 : ag [17, 19] [] I I0 := by rw [← hI0]; exact agu (agu (agu ag.rf (by decide) (by decide)) (by decide) (by decide)) (by decide) (by decide)
  have e5 : I0 17 5 = I 17 5 := by rw [← hI0, u2i (by decide), u2i (by decide), u2i (by decide)]
  have e9 : I0 17 9 = I 17 9 := by rw [← hI0, u2i (by decide), u2i (by decide), u2i (by decide)]
  have hT0 : Tx I0 tx n := ⟨by rw [e5]; exact hT.1, hT.2.1, fun i hi => by rw [ha0.c 18]; exact hT.2.2.1 i hi, hT.2.2.2⟩
  have hP0 : PS I0 0 0 I0 := ⟨ag.rf, rfl, rfl, by rw [← hI0, u2i (by decide), u2i (by decide), u2e]; rfl, by rw [← hI0, u2i (by decide), u2e], by rw [← hI0, u2e]; rfl⟩
  generalize hR : pT tx n sub 121 0 [] = R at h1 h2 hb0
  -- a fault
  have bad : ∀ J w, PF I0 w J → R.1 = false → w = R.2.1 → wX6_read_40 G l (D + 2) (fun v I' L' => ∃ r, v = some (.int r) ∧ Q r I' L') J L := fun J w hF q hw => by
    have fin : ∀ J, PF I0 w J → wX6_read_55 G l (D + 2) (fun v I' L' => ∃ r, v = some (.int r) ∧ Q r I' L') J L := fun J hF => by
      unfold wX6_read_55
      rw [if_pos (by rw [zle, z0, hF.2.2.2]; omega)]
      unfold wX6_read_88
      refine ri (h2 q _ _ (by rw [hF.2.2.2, hw]) (agu (ha0.th hF.1) (by decide) (by decide)) u2e ?_)
      rw [u2i (by decide), hF.2.2.1, e9]
    unfold wX6_read_40
    exact ife (fun _ => fin J hF) (fun _ => tX6_spoilD hF (fun J2 hF2 => fin J2 hF2))
  -- the end
  have done : ∀ J i cs, PS I0 i cs.length J → DR I0 0 cs J → i ≤ n → (i < n → R.1 = false ∧ R.2.1 = i) → (¬ i < n → R.1 = true ∧ R.2.2.1 = cs) → wX6_read_40 G l (D + 2) (fun v I' L' => ∃ r, v = some (.int r) ∧ Q r I' L') J L := fun J i cs hP hDR hi q1 q2 => by
    have hP' := hP
    obtain ⟨c1, c2, c3, c4, c5, c6⟩ := hP'
    by_cases q : i < n
    · obtain ⟨f1, f2⟩ := q1 q
      unfold wX6_read_40
      rw [if_neg (by rw [zle, c2, e5, hT.1, c4]; omega)]
      refine tX6_spoil hP (fun J2 hF => ?_)
      unfold wX6_read_55
      rw [if_pos (by rw [zle, z0, hF.2.2.2]; omega)]
      unfold wX6_read_88
      refine ri (h2 f1 _ _ (by rw [hF.2.2.2, f2]) (agu (ha0.th hF.1) (by decide) (by decide)) u2e ?_)
      rw [u2i (by decide), hF.2.2.1, e9]
    · obtain ⟨r1, r2⟩ := q2 q
      have hlen := (hb0.1 r1).2
      rw [r2] at hlen
      unfold wX6_read_40
      rw [if_pos (by rw [zle, c2, e5, hT.1, c4]; omega)]
      unfold wX6_read_55
      rw [if_neg (by rw [c5]; decide)]
      refine ⟨jcok0 (n := 121) (by decide) (by decide) (by decide), ?_⟩
      rw [jcpy_cpk (n := 121) (by decide)]
      unfold wX6_read_88
      have e7 : (u2 (cpk J 20 19 121) 17 9 ((cpk J 20 19 121) 17 8)) 17 7 = -1 := by rw [u2i (by decide), cpk_ne (by decide)]; exact c5
      rw [e7]
      refine ri (h1 r1 _ (agu (agu (agc (ag.up (ha0.th (S := [17, 19]) (T := []) c1) rfl rfl) (by decide) (by decide)) (by decide) (by decide)) (by decide) (by decide)) u2e ?_ (fun j hj => ?_))
      · rw [u2i (by decide), u2e, cpk_ne (by decide), c6, r2]
      · rw [r2] at hj ⊢
        rw [u2n (by decide), u2n (by decide), cpk_eq (by omega)]
        have := hDR.2 j hj
        rw [Nat.zero_add] at this
        exact this
  have stop : ∀ m c J, wX6_read_40 G l (D + 2) (fun v I' L' => ∃ r, v = some (.int r) ∧ Q r I' L') J L → wX6_read_19 G l (D + 2) (fun v I' L' => ∃ r, v = some (.int r) ∧ Q r I' L') (m + 1) 0 c J L := fun m c J hq => by
    unfold wX6_read_19
    refine ife (fun _ => hq) (fun _ => ?_)
    rw [if_pos rfl]
    exact hq
  have loop : ∀ (f c i : Nat) (cs : List Int32) J, c + f = 121 → c ≤ i → i ≤ n → cs.length ≤ i → PS I0 i cs.length J → DR I0 0 cs J → ((pT tx n sub f i cs).1 = R.1 ∧ (pT tx n sub f i cs).2.1 = R.2.1 ∧ (pT tx n sub f i cs).2.2.1 = R.2.2.1) → wX6_read_19 G l (D + 2) (fun v I' L' => ∃ r, v = some (.int r) ∧ Q r I' L') (f + 1) 1 (Int32.ofNat c) J L := by
    intro f
    induction f with
    | zero => intro c i cs J h1 h2 h3; omega
    | succ f ih =>
      intro c i cs J hc hci hi hcs hP hDR he
      have hGL := GLn (tx := tx) (s := cs.length) hs hi
      unfold pT at he
      unfold wX6_read_19
      rw [if_neg (by rw [zlt, zl_120, zo (by omega)]; omega), if_neg (by decide)]
      have dapp : ∀ (b : List Int32) (J' : jS), DR J cs.length b J' → DR I0 0 (cs ++ b) J' := fun b J' hb => hDR.app (by rw [Nat.zero_add]; exact hb)
      refine tX6_readLine hT0 hs (hC I0 hT0) (hD I0) hP hi hcs (fun q1 q2 J' hP' hDR' => ?_) (fun q1 q2 J' hP' hDR' => ?_) (fun q1 J' hF => ?_)
      · rw [if_pos q1, if_pos q2] at he
        obtain ⟨a1, a2, a3⟩ := hGL.1 q1
        have hin := chr_in q2 (by decide)
        rw [zsucc]
        rw [← List.length_append] at hP'
        exact ih (c + 1) _ _ J' (by omega) (by omega) (by omega) (by rw [List.length_append]; omega) hP' (dapp _ _ hDR') he
      · rw [if_pos q1, if_neg q2] at he
        refine stop f _ J' (done J' _ _ (by rw [List.length_append]; exact hP') (dapp _ _ hDR') hGL.2 (fun z => ?_) (fun z => ?_))
        · rw [if_pos z] at he; exact ⟨he.1.symm, he.2.1.symm⟩
        · rw [if_neg z] at he; exact ⟨he.1.symm, he.2.2.symm⟩
      · rw [if_neg (by rw [q1]; decide)] at he
        exact stop f _ J' (bad J' _ hF he.1.symm he.2.1)
  exact ⟨_, loop 121 0 0 [] I0 (by omega) (by omega) (by omega) (by simp) hP0 DR.rf (by rw [hR]; exact ⟨rfl, rfl, rfl⟩)⟩
end CQ

/-! the class reads the law -/
def PS (I : jS) (i dr : Nat) (J : jS) : Prop := ag [17, 19] [] I J ∧ J 17 5 = I 17 5 ∧ J 17 9 = I 17 9 ∧ (J 17 6).toInt = i ∧ J 17 7 = -1 ∧ (J 17 8).toInt = dr
def PF (I : jS) (w : Nat) (J : jS) : Prop := ag [17, 19] [] I J ∧ J 17 5 = I 17 5 ∧ J 17 9 = I 17 9 ∧ (J 17 7).toInt = w
def Tx (I : jS) (tx : Nat → Int32) (n : Nat) : Prop := (I 17 5).toInt = n ∧ n ≤ 120 ∧ (∀ i, i < n → I 18 i = tx i) ∧ ∀ i, i < n → 0 ≤ (tx i).toInt ∧ (tx i).toInt ≤ 255
/-- what was drafted -/
def DR (J : jS) (dr : Nat) (cs : List Int32) (J' : jS) : Prop := (∀ j, j < dr → J' 19 j = J 19 j) ∧ ∀ j, j < cs.length → J' 19 (dr + j) = cs.getD j 0
theorem DR.rf {J : jS} {dr : Nat} : DR J dr [] J := ⟨fun _ _ => rfl, fun j hj => by simp at hj⟩
theorem DR.app {J J1 J2 : jS} {dr : Nat} {a b : List Int32} (h1 : DR J dr a J1) (h2 : DR J1 (dr + a.length) b J2) : DR J dr (a ++ b) J2 := by
  refine ⟨fun j hj => by rw [h2.1 j (by omega), h1.1 j hj], fun j hj => ?_⟩
  rw [List.length_append] at hj
  by_cases q : j < a.length
  · rw [gapp q, h2.1 (dr + j) (by omega), h1.2 j q]
  · have := h2.2 (j - a.length) (by omega)
    rw [show dr + a.length + (j - a.length) = dr + j by omega] at this
    rw [this]
    have e := gapp2 (a := a) (b := b) (j := j - a.length)
    rw [show a.length + (j - a.length) = j by omega] at e
    exact e.symm
section CP
variable {G : jG} {l : Launch} {d : Nat} {I J : jS} {L : jL} {Q : Int32 → jS → jL → Prop} {Qv : jS → jL → Prop} {tx : Nat → Int32} {n : Nat} {sub subL subO : Nat → zP}
theorem tX6_next {i dr : Nat} (hT : Tx I tx n) (h0 : PS I i dr J) (h : Q (chr tx n i) J L) : cI G l mX6_next (d + 1) [.ref 17] J L Q := by
  obtain ⟨ha, h5, h9, h6, h7, h8⟩ := h0
  obtain ⟨t1, t2, t3, t4⟩ := hT
  have e18 : J 18 = I 18 := ha.c 18
  refine wX6_next_ok ?_
  unfold wX6_next
  rw [if_neg (by rw [h7]; decide), if_neg (by rw [zlt, z0, h6]; omega)]
  refine ife (fun q => ri ?_) (fun q => ?_)
  · rw [zle, h5, t1, h6] at q
    rw [chr_ge (by omega)] at h
    exact h
  · rw [zle, h5, t1, h6] at q
    rw [if_neg (by rw [zle, zl_120, h6]; omega)]
    refine ⟨by rw [zin, h6]; omega, ri ?_⟩
    have e : (J 17 6).toNatClampNeg = i := by rw [znat, h6]; omega
    rw [e, e18, t3 i (by omega)]
    rw [chr_lt (by omega)] at h
    exact h
theorem tX6_nextD {w : Nat} (h0 : PF I w J) (h : Q (-1) J L) : cI G l mX6_next (d + 1) [.ref 17] J L Q := by
  refine wX6_next_ok ?_
  unfold wX6_next
  rw [if_pos (by rw [zle, z0, h0.2.2.2]; omega)]
  exact ri h
theorem tX6_spoil {i dr : Nat} (h0 : PS I i dr J) (h : ∀ J', PF I i J' → Qv J' L) : cV G l mX6_spoil (d + 1) [.ref 17] J L Qv := by
  obtain ⟨ha, h5, h9, h6, h7, h8⟩ := h0
  refine wX6_spoil_ok (Q := fun v I' L' => v = none ∧ Qv I' L') ?_
  unfold wX6_spoil
  rw [if_neg (by rw [h7]; decide)]
  refine ⟨rfl, h _ ⟨agu ha (by decide) (by decide), ?_, ?_, ?_⟩⟩
  · rw [u2i (by decide)]; exact h5
  · rw [u2i (by decide)]; exact h9
  · rw [u2e]; exact h6
theorem tX6_spoilD {w : Nat} (h0 : PF I w J) (h : ∀ J', PF I w J' → Qv J' L) : cV G l mX6_spoil (d + 1) [.ref 17] J L Qv := by
  refine wX6_spoil_ok (Q := fun v I' L' => v = none ∧ Qv I' L') ?_
  unfold wX6_spoil
  rw [if_pos (by rw [zle, z0, h0.2.2.2]; omega)]
  exact ⟨rfl, h J h0⟩
theorem tX6_emit {i dr : Nat} {x : Int32} (h0 : PS I i dr J) (hd : dr ≤ 120) (h : ∀ J', PS I i (dr + 1) J' → DR J dr [x] J' → Qv J' L) : cV G l mX6_emit (d + 1) [.ref 17, .int x] J L Qv := by
  obtain ⟨ha, h5, h9, h6, h7, h8⟩ := h0
  refine wX6_emit_ok (Q := fun v I' L' => v = none ∧ Qv I' L') ?_
  unfold wX6_emit
  have e : (J 17 8).toNatClampNeg = dr := by rw [znat, h8]; omega
  rw [if_neg (by rw [zlt, z0, h8]; omega), if_pos (by rw [zlt, zl_121, h8]; omega)]
  refine ⟨by rw [zin, h8]; omega, rfl, ?_⟩
  rw [e]
  refine h _ ⟨agu (agu ha (by decide) (by decide)) (by decide) (by decide), ?_, ?_, ?_, ?_, ?_⟩ ⟨fun j hj => ?_, fun j hj => ?_⟩
  · rw [u2i (by decide), u2n (by decide)]; exact h5
  · rw [u2i (by decide), u2n (by decide)]; exact h9
  · rw [u2i (by decide), u2n (by decide)]; exact h6
  · rw [u2i (by decide), u2n (by decide)]; exact h7
  · rw [u2e, zadd (by rw [h8, z1]; omega) (by rw [h8, z1]; omega), h8, z1]; omega
  · rw [u2n (by decide), u2i (by omega)]
  · have : j = 0 := by simp at hj; exact hj
    subst this
    rw [u2n (by decide), Nat.add_zero, u2e]
    rfl
theorem tX6_emitD {w : Nat} {x : Int32} (h0 : PF I w J) (h : ∀ J', PF I w J' → Qv J' L) : cV G l mX6_emit (d + 1) [.ref 17, .int x] J L Qv := by
  obtain ⟨ha, h5, h9, h7⟩ := id h0
  refine wX6_emit_ok (Q := fun v I' L' => v = none ∧ Qv I' L') ?_
  unfold wX6_emit
  refine ife (fun q => ⟨rfl, h J h0⟩) (fun q => ife (fun q2 => ⟨?_, rfl, h _ ⟨agu (agu ha (by decide) (by decide)) (by decide) (by decide), ?_, ?_, ?_⟩⟩) (fun q2 => ⟨rfl, h J h0⟩))
  · rw [zlt, z0] at q
    rw [zlt, zl_121] at q2
    rw [zin]; omega
  · rw [u2i (by decide), u2n (by decide)]; exact h5
  · rw [u2i (by decide), u2n (by decide)]; exact h9
  · rw [u2i (by decide), u2n (by decide)]; exact h7
theorem tX6_isDigit {c : Int32} (h : Q (b01 (digB c = true)) I L) : cI G l mX6_isDigit (d + 1) [.int c] I L Q := by
  refine wX6_isDigit_ok ?_
  unfold wX6_isDigit
  refine ife (fun q => ri ?_) (fun q => ife (fun q2 => ri ?_) (fun q2 => ri ?_))
  · rw [zlt, zl_48] at q
    rw [b01_neg (by rw [digB_t]; omega)] at h; exact h
  · rw [zlt, zl_57] at q2
    rw [b01_neg (by rw [digB_t]; omega)] at h; exact h
  · rw [zlt, zl_48] at q
    rw [zlt, zl_57] at q2
    rw [b01_pos (by rw [digB_t]; omega)] at h; exact h
theorem tX6_nameOf {c : Int32} (h : Q (nmOf c) I L) : cI G l mX6_nameOf (d + 1) [.int c] I L Q := by
  refine wX6_nameOf_ok ?_
  unfold wX6_nameOf
  unfold nmOf at h
  refine ife (fun q => ?_) (fun q => ?_)
  · rw [if_pos q] at h; exact ri h
  rw [if_neg q] at h
  refine ife (fun q => ?_) (fun q => ?_)
  · rw [if_pos q] at h; exact ri h
  rw [if_neg q] at h
  refine ife (fun q => ?_) (fun q => ?_)
  · rw [if_pos q] at h; exact ri h
  rw [if_neg q] at h
  refine ife (fun q => ?_) (fun q => ?_)
  · rw [if_pos q] at h; exact ri h
  rw [if_neg q] at h
  refine ife (fun q => ?_) (fun q => ?_)
  · rw [if_pos q] at h; exact ri h
  rw [if_neg q] at h
  refine ife (fun q => ?_) (fun q => ?_)
  · rw [if_pos q] at h; exact ri h
  rw [if_neg q] at h
  exact ri h
theorem tX6_levelOf {c : Int32} (h : Q (lvOf c) I L) : cI G l mX6_levelOf (d + 1) [.int c] I L Q := by
  refine wX6_levelOf_ok ?_
  unfold wX6_levelOf
  unfold lvOf at h
  refine ife (fun q => ?_) (fun q => ?_)
  · rw [if_pos q] at h; exact ri h
  rw [if_neg q] at h
  refine ife (fun q => ?_) (fun q => ?_)
  · rw [if_pos q] at h; exact ri h
  rw [if_neg q] at h
  refine ife (fun q => ?_) (fun q => ?_)
  · rw [if_pos q] at h; exact ri h
  rw [if_neg q] at h
  refine ife (fun q => ?_) (fun q => ?_)
  · rw [if_pos q] at h; exact ri h
  rw [if_neg q] at h
  refine ife (fun q => ?_) (fun q => ?_)
  · rw [if_pos q] at h; exact ri h
  rw [if_neg q] at h
  refine ife (fun q => ?_) (fun q => ?_)
  · rw [if_pos q] at h; exact ri h
  rw [if_neg q] at h
  refine ife (fun q => ?_) (fun q => ?_)
  · rw [if_pos q] at h; exact ri h
  rw [if_neg q] at h
  refine ife (fun q => ?_) (fun q => ?_)
  · rw [if_pos q] at h; exact ri h
  rw [if_neg q] at h
  refine ife (fun q => ?_) (fun q => ?_)
  · rw [if_pos q] at h; exact ri h
  rw [if_neg q] at h
  refine ife (fun q => ?_) (fun q => ?_)
  · rw [if_pos q] at h; exact ri h
  rw [if_neg q] at h
  exact ri h
/-- a reader and what it reads -/
def CRd (G : jG) (l : Launch) (I : jS) (L : jL) (n : Nat) (M : jM) (D : Nat) (args : List Value) (sub : Nat → zP) : Prop := ∀ (i dr : Nat) (J : jS) (Qv : jS → jL → Prop), PS I i dr J → i ≤ n → dr ≤ i → ((sub i).1 = true → ∀ J', PS I (sub i).2.1 (dr + (sub i).2.2.1.length) J' → DR J dr (sub i).2.2.1 J' → Qv J' L) → ((sub i).1 = false → ∀ J', PF I (sub i).2.1 J' → Qv J' L) → cV G l M D args J L Qv
/-- behind a fault nothing more is read -/
def CDd (G : jG) (l : Launch) (I : jS) (L : jL) (M : jM) (D : Nat) (args : List Value) : Prop := ∀ (w : Nat) (J : jS) (Qv : jS → jL → Prop), PF I w J → (∀ J', PF I w J' → Qv J' L) → cV G l M D args J L Qv
theorem D_op {x : Int32} : CDd G l I L mX6_readOperand (d + 2) [.ref 17, .int x] := fun w J Qv h0 h => by
  refine wX6_readOperand_ok (Q := fun v I' L' => v = none ∧ Qv I' L') ?_
  unfold wX6_readOperand
  refine tX6_nextD h0 (tX6_isDigit ?_)
  rw [b01_neg (by decide), if_pos rfl]
  refine tX6_nameOf ?_
  rw [if_pos (by decide)]
  refine ife (fun q => ?_) (fun q => tX6_spoilD h0 (fun J' hJ' => ⟨rfl, h J' hJ'⟩))
  rw [if_neg (by decide), if_neg (by decide), if_neg (by decide)]
  exact tX6_spoilD h0 (fun J' hJ' => ⟨rfl, h J' hJ'⟩)
theorem lv_m1 {lv : Nat} (h : lv < 5) : ¬ lvOf (-1) = Int32.ofNat lv := fun z => by
  have : lvOf (-1) = -1 := by decide
  rw [this, zeq, zl_m1, zo (by omega)] at z
  omega
theorem D_lev {D lv : Nat} {x : Int32} (hl : lv < 5) (hD : CDd G l I L mX6_readLevel (D + 1) [.ref 17, .int (Int32.ofNat (lv + 1)), .int x]) : CDd G l I L mX6_readLevel (D + 2) [.ref 17, .int (Int32.ofNat lv), .int x] := fun w J Qv h0 h => by
  refine wX6_readLevel_ok (Q := fun v I' L' => v = none ∧ Qv I' L') ?_
  unfold wX6_readLevel
  rw [if_pos (by rw [zlt, zl_5, zo (by omega)]; omega), zsucc]
  refine hD w J _ h0 (fun J1 h1 => tX6_nextD h1 (tX6_levelOf ?_))
  rw [if_neg (lv_m1 hl)]
  refine ⟨1, ?_⟩
  unfold wX6_readLevel_39
  rw [if_neg (by decide), if_pos rfl]
  exact ⟨rfl, h J1 h1⟩
theorem D_lev5 {D : Nat} {x : Int32} (hD : CDd G l I L mX6_readOperand D [.ref 17, .int x]) : CDd G l I L mX6_readLevel (D + 1) [.ref 17, .int (Int32.ofNat 5), .int x] := fun w J Qv h0 h => by
  refine wX6_readLevel_ok (Q := fun v I' L' => v = none ∧ Qv I' L') ?_
  unfold wX6_readLevel
  rw [if_neg (by decide)]
  exact hD w J _ h0 (fun J1 h1 => ⟨rfl, h J1 h1⟩)
theorem D_E {D : Nat} {x : Int32} (hD : CDd G l I L mX6_readOperand D [.ref 17, .int x]) : CDd G l I L mX6_readLevel (D + 6) [.ref 17, .int (Int32.ofNat 0), .int x] :=
  D_lev (by decide) (D_lev (by decide) (D_lev (by decide) (D_lev (by decide) (D_lev (by decide) (D_lev5 hD)))))
theorem C_lev5 {D : Nat} {x : Int32} (hC : CRd G l I L n mX6_readOperand D [.ref 17, .int x] sub) : CRd G l I L n mX6_readLevel (D + 1) [.ref 17, .int (Int32.ofNat 5), .int x] sub := fun i dr J Qv h0 hi hd h1 h2 => by
  refine wX6_readLevel_ok (Q := fun v I' L' => v = none ∧ Qv I' L') ?_
  unfold wX6_readLevel
  rw [if_neg (by decide)]
  exact hC i dr J _ h0 hi hd (fun q J1 a b => ⟨rfl, h1 q J1 a b⟩) (fun q J1 a => ⟨rfl, h2 q J1 a⟩)
theorem C_lev {D lv : Nat} {x : Int32} (hT : Tx I tx n) (hl : lv < 5) (hs : GD n sub) (hC : CRd G l I L n mX6_readLevel (D + 1) [.ref 17, .int (Int32.ofNat (lv + 1)), .int x] sub) (hD : CDd G l I L mX6_readLevel (D + 1) [.ref 17, .int (Int32.ofNat (lv + 1)), .int x]) : CRd G l I L n mX6_readLevel (D + 2) [.ref 17, .int (Int32.ofNat lv), .int x] (pLev tx n sub lv) := fun i dr J Qv h0 hi hd h1 h2 => by
  have hn := hT.2.1
  unfold pLev at h1 h2
  generalize hR : pLoop tx n sub lv 120 (sub i) = R at h1 h2
  have stopped : ∀ m c J1, (none : Option Value) = none ∧ Qv J1 L → wX6_readLevel_39 G l (D + 1) (fun v I' L' => v = none ∧ Qv I' L') (m + 1) (Int32.ofNat lv) x 0 c J1 L := fun m c J1 hq => by
    unfold wX6_readLevel_39
    refine ife (fun _ => hq) (fun _ => ?_)
    rw [if_pos rfl]
    exact hq
  have loop : ∀ (f c : Nat) (r : zP) J1, c + f = 120 → r.1 = true → GR n i r → PS I r.2.1 (dr + r.2.2.1.length) J1 → DR J dr r.2.2.1 J1 → pLoop tx n sub lv f r = R → wX6_readLevel_39 G l (D + 1) (fun v I' L' => v = none ∧ Qv I' L') (f + 1) (Int32.ofNat lv) x (if lvOf (chr tx n r.2.1) = Int32.ofNat lv then 1 else 0) (Int32.ofNat c) J1 L := by
    intro f
    induction f with
    | zero =>
      intro c r J1 hc hr hG h1' hDR he
      unfold wX6_readLevel_39
      rw [if_pos (by rw [zle, zl_120, zo (by omega)]; omega)]
      have he' : r = R := he
      rw [he'] at hr h1' hDR
      exact ⟨rfl, h1 hr J1 h1' hDR⟩
    | succ f ih =>
      intro c r J1 hc hr hG h1' hDR he
      unfold pLoop at he
      by_cases q : lvOf (chr tx n r.2.1) = Int32.ofNat lv
      · rw [if_pos ⟨hr, q⟩] at he
        rw [if_pos q]
        have hin := lv_in hl q
        obtain ⟨g1, g2, g3, g4⟩ := hG.1 hr
        unfold wX6_readLevel_39
        rw [if_neg (by rw [zle, zl_120, zo (by omega)]; omega), if_neg (by decide)]
        refine tX6_next hT h1' ?_
        have hP2 : PS I (r.2.1 + 1) (dr + r.2.2.1.length) (u2 J1 17 6 (J1 17 6 + 1)) := by
          obtain ⟨a1, a2, a3, a4, a5, a6⟩ := h1'
          refine ⟨agu a1 (by decide) (by decide), ?_, ?_, ?_, ?_, ?_⟩
          · rw [u2i (by decide)]; exact a2
          · rw [u2i (by decide)]; exact a3
          · rw [u2e, zadd (by rw [a4, z1]; omega) (by rw [a4, z1]; omega), a4, z1]; omega
          · rw [u2i (by decide)]; exact a5
          · rw [u2i (by decide)]; exact a6
        rw [zsucc]
        have hDR2 : DR J dr r.2.2.1 (u2 J1 17 6 (J1 17 6 + 1)) := ⟨fun j hj => by rw [u2n (by decide)]; exact hDR.1 j hj, fun j hj => by rw [u2n (by decide)]; exact hDR.2 j hj⟩
        have hGj : GR n i (pJoin tx n sub r) := by
          rcases GD_join hs hG hl hr q with z | z
          · exact z.1
          · exact z.2
        refine hC (r.2.1 + 1) (dr + r.2.2.1.length) _ _ hP2 (by omega) (by omega) (fun qb J2 hP3 hDR3 => ?_) (fun qb J2 hF => ?_)
        · obtain ⟨b1, b2, b3, b4⟩ := (hs (r.2.1 + 1) (by omega)).1 qb
          refine tX6_emit hP3 (by omega) (fun J3 hP4 hDR4 => ?_)
          have hj1 : (pJoin tx n sub r).1 = true := qb
          have hDRj : DR J dr (pJoin tx n sub r).2.2.1 J3 := by
            refine (hDR2.app hDR3).app ?_
            rw [List.length_append, ← Nat.add_assoc]
            exact hDR4
          have hPj : PS I (pJoin tx n sub r).2.1 (dr + (pJoin tx n sub r).2.2.1.length) J3 := by
            have e : dr + (pJoin tx n sub r).2.2.1.length = dr + r.2.2.1.length + (sub (r.2.1 + 1)).2.2.1.length + 1 := by
              unfold pJoin
              simp only [List.length_append, List.length_cons, List.length_nil]
              omega
            rw [e]
            exact hP4
          by_cases q2 : lv = 2
          · rw [if_pos q2] at he
            rw [if_pos (by rw [q2]; decide)]
            refine stopped f _ J3 ⟨rfl, ?_⟩
            rw [he] at hj1 hPj hDRj
            exact h1 hj1 J3 hPj hDRj
          · rw [if_neg q2] at he
            rw [if_neg (by rw [zeq, zo (by omega), zl_2]; omega)]
            refine tX6_next hT hPj (tX6_levelOf ?_)
            rw [zsucc]
            have := ih (c + 1) (pJoin tx n sub r) J3 (by omega) hj1 hGj hPj hDRj he
            refine ife (fun z => ?_) (fun z => ?_)
            · rw [if_pos z] at this; exact this
            · rw [if_neg z] at this; exact this
        · refine tX6_emitD hF (fun J3 hF3 => ?_)
          have hj1 : (pJoin tx n sub r).1 = false := qb
          have hRf : pJoin tx n sub r = R := by
            by_cases q2 : lv = 2
            · rw [if_pos q2] at he; exact he
            · rw [if_neg q2] at he
              rw [← he]
              cases f with
              | zero => rfl
              | succ f =>
                unfold pLoop
                rw [if_neg (fun z => by rw [hj1] at z; exact absurd z.1 (by decide))]
          have hfin : (none : Option Value) = none ∧ Qv J3 L := ⟨rfl, h2 (by rw [← hRf]; exact hj1) J3 (by rw [← hRf]; exact hF3)⟩
          refine ife (fun z => stopped f _ J3 hfin) (fun z => tX6_nextD hF3 (tX6_levelOf ?_))
          rw [if_neg (lv_m1 hl)]
          exact stopped f _ J3 hfin
      · rw [if_neg (fun z => q z.2)] at he
        rw [if_neg q]
        refine stopped (f + 1) _ J1 ⟨rfl, ?_⟩
        rw [he] at hr h1' hDR
        exact h1 hr J1 h1' hDR
  refine wX6_readLevel_ok (Q := fun v I' L' => v = none ∧ Qv I' L') ?_
  unfold wX6_readLevel
  rw [if_pos (by rw [zlt, zl_5, zo (by omega)]; omega), zsucc]
  refine hC i dr J _ h0 hi hd (fun q J1 hP hDR => ?_) (fun q J1 hF => ?_)
  · refine tX6_next hT hP (tX6_levelOf ?_)
    have := loop 120 0 (sub i) J1 (by omega) q (hs i hi) hP hDR hR
    refine ife (fun z => ?_) (fun z => ?_)
    · rw [if_pos z] at this; exact ⟨_, this⟩
    · rw [if_neg z] at this; exact ⟨_, this⟩
  · refine tX6_nextD hF (tX6_levelOf ?_)
    rw [if_neg (lv_m1 hl)]
    refine ⟨1, stopped 0 _ J1 ⟨rfl, ?_⟩⟩
    have hRf : sub i = R := by
      rw [← hR]
      show _ = (if (sub i).1 = true ∧ lvOf (chr tx n (sub i).2.1) = Int32.ofNat lv then _ else sub i)
      rw [if_neg (fun z => by rw [q] at z; exact absurd z.1 (by decide))]
    exact h2 (by rw [← hRf]; exact q) J1 (by rw [← hRf]; exact hF)
theorem C_E {D : Nat} {x : Int32} (hT : Tx I tx n) (hs : GD n sub) (hC : CRd G l I L n mX6_readOperand D [.ref 17, .int x] sub) (hD : CDd G l I L mX6_readOperand D [.ref 17, .int x]) : CRd G l I L n mX6_readLevel (D + 6) [.ref 17, .int (Int32.ofNat 0), .int x] (pE tx n sub) := by
  have d5 := D_lev5 hD
  have c5 := C_lev5 hC
  have c4 := C_lev (lv := 4) hT (by decide) hs c5 d5
  have d4 := D_lev (lv := 4) (by decide) d5
  have g4 := GD_lev (tx := tx) (lv := 4) hs (by decide)
  have c3 := C_lev (lv := 3) hT (by decide) g4 c4 d4
  have d3 := D_lev (lv := 3) (by decide) d4
  have g3 := GD_lev (tx := tx) (lv := 3) g4 (by decide)
  have c2 := C_lev (lv := 2) hT (by decide) g3 c3 d3
  have d2 := D_lev (lv := 2) (by decide) d3
  have g2 := GD_lev (tx := tx) (lv := 2) g3 (by decide)
  have c1 := C_lev (lv := 1) hT (by decide) g2 c2 d2
  have d1 := D_lev (lv := 1) (by decide) d2
  have g1 := GD_lev (tx := tx) (lv := 1) g2 (by decide)
  exact C_lev (lv := 0) hT (by decide) g1 c1 d1
end CP

/-! the law's codes, worked -/
theorem zpr {k : Nat} (h : k ≤ 1000) : Int32.ofNat (k + 1) + -1 = Int32.ofNat k ∧ Int32.ofNat (k + 1) - 1 = Int32.ofNat k := by
  constructor
  · rw [zeq, zadd (by rw [zo (by omega), zl_m1]; omega) (by rw [zo (by omega), zl_m1]; omega), zo (by omega), zl_m1, zo (by omega)]; omega
  · rw [zeq, zsub (by rw [zo (by omega), z1]; omega) (by rw [zo (by omega), z1]; omega), zo (by omega), z1, zo (by omega)]; omega
theorem gl1 {l : List Int32} {x : Int32} : (l ++ [x]).getD l.length 0 = x := by
  rw [gdz (by omega), if_neg (by omega)]
theorem gapp {a b : List Int32} {j : Nat} (h : j < a.length) : (a ++ b).getD j 0 = a.getD j 0 := by
  simp [List.getElem?_append_left h]
theorem gapp2 {a b : List Int32} {j : Nat} : (a ++ b).getD (a.length + j) 0 = b.getD j 0 := by
  simp [List.getElem?_append_right (Nat.le_add_right a.length j)]
section WK
variable {G : jG} {l : Launch} {d : Nat} {I : jS} {L : jL} {Q : Int32 → jS → jL → Prop}
theorem tX6_joined {s a b : Int32} (h : Q (jnd s a b) I L) : cI G l mX6_joined (d + 1) [.int s, .int a, .int b] I L Q := by
  refine wX6_joined_ok ?_
  unfold wX6_joined
  unfold jnd at h
  refine ife (fun q => ?_) (fun q => ?_)
  · rw [if_pos q] at h
    refine ife (fun q2 => ?_) (fun q2 => ⟨q2, ?_⟩)
    · rw [if_pos q2] at h; exact ri h
    · rw [if_neg q2] at h; exact ri h
  rw [if_neg q] at h
  refine ife (fun q => ?_) (fun q => ?_)
  · rw [if_pos q] at h
    refine ife (fun q2 => ?_) (fun q2 => ife (fun q3 => ?_) (fun q3 => ?_))
    · rw [if_pos q2] at h; exact ri h
    · rw [if_neg q2, if_pos q3] at h; exact ri h
    · rw [if_neg q2, if_neg q3] at h; exact ri h
  rw [if_neg q] at h
  refine ife (fun q => ?_) (fun q => ?_)
  · rw [if_pos q] at h; exact ri h
  rw [if_neg q] at h
  refine ife (fun q => ?_) (fun q => ?_)
  · rw [if_pos q] at h; exact ri h
  rw [if_neg q] at h
  refine ife (fun q => ?_) (fun q => ?_)
  · rw [if_pos q] at h; exact ri h
  rw [if_neg q] at h
  refine ife (fun q => ?_) (fun q => ?_)
  · rw [if_pos q] at h
    refine ife (fun q2 => ?_) (fun q2 => ⟨q2, ?_⟩)
    · rw [if_pos q2] at h; exact ri h
    · rw [if_neg q2] at h; exact ri h
  rw [if_neg q] at h
  refine ife (fun q => ?_) (fun q => ?_)
  · rw [if_pos q] at h
    refine ife (fun q2 => ?_) (fun q2 => ?_)
    · rw [if_pos q2] at h; exact ri h
    · rw [if_neg q2] at h; exact ri h
  rw [if_neg q] at h
  refine ife (fun q => ?_) (fun q => ?_)
  · rw [if_pos q] at h
    refine ife (fun q2 => ?_) (fun q2 => ?_)
    · rw [if_pos q2] at h; exact ri h
    · rw [if_neg q2] at h; exact ri h
  rw [if_neg q] at h
  refine ife (fun q => ?_) (fun q => ?_)
  · rw [if_pos q] at h
    refine ife (fun q2 => ?_) (fun q2 => ?_)
    · rw [if_pos q2] at h; exact ri h
    · rw [if_neg q2] at h; exact ri h
  rw [if_neg q] at h
  refine ife (fun q => ?_) (fun q => ?_)
  · rw [if_pos q] at h
    refine ife (fun q2 => ife (fun q3 => ?_) (fun q3 => ?_)) (fun q2 => ?_)
    · rw [if_pos q2, if_pos q3] at h; exact ri h
    · rw [if_pos q2, if_neg q3] at h; exact ri h
    · rw [if_neg q2] at h; exact ri h
  rw [if_neg q] at h
  exact ri h
theorem tX6_named {x : Int32} {k : Nat} (hx : x.toInt = k) (hk : k < 6) (h : Q (I 22 k) I L) : cI G l mX6_named (d + 1) [.ref 17, .int x] I L Q := by
  refine wX6_named_ok ?_
  unfold wX6_named
  have e : x.toNatClampNeg = k := by rw [znat]; omega
  rw [if_neg (by rw [zlt, z0]; omega), if_neg (by rw [zle, zl_6]; omega)]
  refine ⟨by rw [zin]; omega, ri ?_⟩
  rw [e]
  exact h
/-- codes that leave one value more -/
def WC (G : jG) (l : Launch) (d : Nat) (cs : List Int32) (v : lE → Int32) : Prop :=
  ∀ (L : jL) (Q' : Option Value → jS → jL → Prop) (E : lE) (len s top i m : Nat) (J : jS), (J 17 9).toInt = len → len ≤ 121 → (∀ k, k < 6 → J 22 k = E k) → (∀ j, j < cs.length → J 20 (s + j) = cs.getD j 0) → s + cs.length ≤ len → top ≤ s → i ≤ s →
    (∀ J', ag [21] [] J J' → J' 21 top = v E → (∀ j, j < top → J' 21 j = J 21 j) → wX6_work_6 G l (d + 1) Q' m (Int32.ofNat (s + cs.length)) (Int32.ofNat (top + 1)) (Int32.ofNat (i + cs.length)) J' L) →
    wX6_work_6 G l (d + 1) Q' (m + cs.length) (Int32.ofNat s) (Int32.ofNat top) (Int32.ofNat i) J L
theorem WC_num {c : Int32} (h0 : 0 ≤ c.toInt) (h1 : c.toInt < 10000) : WC G l d [c] (fun _ => c) := fun L Q' E len s top i m J h9 hl hE hc hs ht hi h => by
  have hcs := hc 0 (by simp)
  have hcs : J 20 s = c := hcs
  have hs : s + 1 ≤ len := hs
  show wX6_work_6 G l (d + 1) Q' (m + 1) (Int32.ofNat s) (Int32.ofNat top) (Int32.ofNat i) J L
  unfold wX6_work_6
  rw [if_neg (by rw [zle, h9, zo (by omega)]; omega), if_neg (by rw [zle, h9, zo (by omega)]; omega), if_neg (by rw [zle, zl_121, zo (by omega)]; omega)]
  refine ⟨by rw [zin, zo (by omega)]; omega, ?_⟩
  rw [zon (by omega), hcs, if_neg (by rw [zle, zl_11000]; omega), if_pos (by rw [zlt, zl_121, zo (by omega)]; omega), if_neg (by rw [zle, zl_10000]; omega)]
  unfold wX6_work_89
  refine ⟨by rw [zin, zo (by omega)]; omega, ?_⟩
  rw [zon (by omega), zsucc, zsucc, zsucc]
  refine h _ (agu ag.rf (by simp) (by decide)) u2e (fun j hj => ?_)
  rw [u2i (by omega)]
theorem WC_name {c : Int32} {k : Nat} (hc0 : c.toInt = 10000 + k) (hk : k < 6) : WC G l d [c] (fun E => E k) := fun L Q' E len s top i m J h9 hl hE hc hs ht hi h => by
  have hcs := hc 0 (by simp)
  have hcs : J 20 s = c := hcs
  have hs : s + 1 ≤ len := hs
  show wX6_work_6 G l (d + 1) Q' (m + 1) (Int32.ofNat s) (Int32.ofNat top) (Int32.ofNat i) J L
  unfold wX6_work_6
  rw [if_neg (by rw [zle, h9, zo (by omega)]; omega), if_neg (by rw [zle, h9, zo (by omega)]; omega), if_neg (by rw [zle, zl_121, zo (by omega)]; omega)]
  refine ⟨by rw [zin, zo (by omega)]; omega, ?_⟩
  rw [zon (by omega), hcs, if_neg (by rw [zle, zl_11000]; omega), if_pos (by rw [zlt, zl_121, zo (by omega)]; omega), if_pos (by rw [zle, zl_10000]; omega)]
  have e : (c - 10000).toInt = k := by rw [zsub (by rw [zl_10000]; omega) (by rw [zl_10000]; omega), zl_10000]; omega
  refine tX6_named e hk ?_
  unfold wX6_work_89
  refine ⟨by rw [zin, zo (by omega)]; omega, ?_⟩
  rw [zon (by omega), zsucc, zsucc, zsucc, hE k hk]
  refine h _ (agu ag.rf (by simp) (by decide)) u2e (fun j hj => ?_)
  rw [u2i (by omega)]
/-- a step that joins two -/
theorem WS_bin {Q' : Option Value → jS → jL → Prop} {len s t i m : Nat} {J : jS} {c sg : Int32} (h9 : (J 17 9).toInt = len) (hl : len ≤ 121) (hs : s < len) (ht : t + 2 ≤ s) (hi : i ≤ s) (hc : J 20 s = c) (hsg : c = 11000 + sg) (hb : 0 ≤ sg.toInt ∧ sg.toInt ≤ 200) (hn1 : sg.toInt ≠ 33) (hn2 : sg.toInt ≠ 126)
    (h : wX6_work_6 G l (d + 1) Q' m (Int32.ofNat (s + 1)) (Int32.ofNat (t + 1)) (Int32.ofNat (i + 1)) (u2 J 21 t (jnd sg (J 21 t) (J 21 (t + 1)))) L) : wX6_work_6 G l (d + 1) Q' (m + 1) (Int32.ofNat s) (Int32.ofNat (t + 2)) (Int32.ofNat i) J L := by
  have ec : c.toInt = 11000 + sg.toInt := by rw [hsg, zadd (by rw [zl_11000]; omega) (by rw [zl_11000]; omega), zl_11000]
  have es : c - 11000 = sg := by rw [zeq, zsub (by rw [zl_11000]; omega) (by rw [zl_11000]; omega), zl_11000]; omega
  have p1 := zpr (k := t + 1) (by omega)
  have p0 := zpr (k := t) (by omega)
  unfold wX6_work_6
  rw [if_neg (by rw [zle, h9, zo (by omega)]; omega), if_neg (by rw [zle, h9, zo (by omega)]; omega), if_neg (by rw [zle, zl_121, zo (by omega)]; omega)]
  refine ⟨by rw [zin, zo (by omega)]; omega, ?_⟩
  rw [zon (by omega), hc, if_pos (by rw [zle, zl_11000]; omega), if_pos (by rw [zle, z1, zo (by omega)]; omega), if_neg (by rw [zeq, zl_12000]; omega), if_pos (by rw [zlt, zl_13000]; omega), if_neg (by rw [zeq, zl_11126]; omega), if_neg (by rw [zeq, zl_11033]; omega), if_pos (by rw [zle, zl_2, zo (by omega)]; omega), p1.1, p0.2]
  refine ⟨by rw [zin, zo (by omega)]; omega, by rw [zin, zo (by omega)]; omega, ?_⟩
  rw [zon (by omega), zon (by omega), es, zsucc, zsucc]
  exact tX6_joined h
/-- a step that turns one -/
theorem WS_un {Q' : Option Value → jS → jL → Prop} {len s t i m : Nat} {J : jS} {c : Int32} (h9 : (J 17 9).toInt = len) (hl : len ≤ 121) (hs : s < len) (ht : t + 1 ≤ s) (hi : i ≤ s) (hc : J 20 s = c) (hcc : c = 11126 ∨ c = 11033)
    (h : wX6_work_6 G l (d + 1) Q' m (Int32.ofNat (s + 1)) (Int32.ofNat (t + 1)) (Int32.ofNat (i + 1)) (u2 J 21 t (if c = 11126 then -(J 21 t) else if J 21 t = 0 then 1 else 0)) L) : wX6_work_6 G l (d + 1) Q' (m + 1) (Int32.ofNat s) (Int32.ofNat (t + 1)) (Int32.ofNat i) J L := by
  have p0 := zpr (k := t) (by omega)
  unfold wX6_work_6
  rw [if_neg (by rw [zle, h9, zo (by omega)]; omega), if_neg (by rw [zle, h9, zo (by omega)]; omega), if_neg (by rw [zle, zl_121, zo (by omega)]; omega)]
  refine ⟨by rw [zin, zo (by omega)]; omega, ?_⟩
  rw [zon (by omega), hc]
  have hin : vp_in (Int32.ofNat t) 121 := by rw [zin, zo (by omega)]; omega
  rcases hcc with rfl | rfl
  · rw [if_pos (by decide), if_pos (by rw [zle, z1, zo (by omega)]; omega), if_neg (by decide), if_pos (by decide), if_pos rfl, p0.2]
    refine ⟨hin, ?_⟩
    rw [zon (by omega), zsucc, zsucc]
    rw [if_pos rfl] at h
    exact h
  · rw [if_pos (by decide), if_pos (by rw [zle, z1, zo (by omega)]; omega), if_neg (by decide), if_pos (by decide), if_neg (by decide), if_pos rfl, p0.2]
    refine ⟨hin, ?_⟩
    rw [zon (by omega), zsucc, zsucc]
    rw [if_neg (by decide)] at h
    refine ife (fun q => ?_) (fun q => ?_)
    · rw [if_pos q] at h; exact h
    · rw [if_neg q] at h; exact h
theorem WC_bin {c1 c2 : List Int32} {v1 v2 : lE → Int32} {sg : Int32} (w1 : WC G l d c1 v1) (w2 : WC G l d c2 v2) (hb : 0 ≤ sg.toInt ∧ sg.toInt ≤ 200) (hn1 : sg.toInt ≠ 33) (hn2 : sg.toInt ≠ 126) (hl1 : 1 ≤ c1.length) (hl2 : 1 ≤ c2.length) : WC G l d (c1 ++ c2 ++ [11000 + sg]) (fun E => jnd sg (v1 E) (v2 E)) := fun L Q' E len s top i m J h9 hl hE hc hs ht hi h => by
  have hlen : (c1 ++ c2 ++ [11000 + sg]).length = c1.length + c2.length + 1 := by simp; omega
  rw [hlen] at hc hs h ⊢
  have e1 : m + (c1.length + c2.length + 1) = m + 1 + c2.length + c1.length := by omega
  rw [e1]
  refine w1 L Q' E len s top i _ J h9 hl hE (fun j hj => ?_) (by omega) ht hi (fun J1 ha1 hv1 hk1 => ?_)
  · rw [hc j (by omega), List.append_assoc, gapp hj]
  refine w2 L Q' E len (s + c1.length) (top + 1) (i + c1.length) _ J1 (by rw [ha1.c 17]; exact h9) hl (fun k hk => by rw [ha1.c 22]; exact hE k hk) (fun j hj => ?_) (by omega) (by omega) (by omega) (fun J2 ha2 hv2 hk2 => ?_)
  · rw [ha1.c 20, Nat.add_assoc, hc (c1.length + j) (by omega), List.append_assoc, gapp2, gapp hj]
  have ha12 : ag [21] [] J J2 := ha1.th ha2
  have b1 : J2 21 top = v1 E := by rw [hk2 top (by omega)]; exact hv1
  refine WS_bin (len := len) (c := 11000 + sg) (sg := sg) (by rw [ha12.c 17]; exact h9) hl (by omega) (by omega) (by omega) ?_ rfl hb hn1 hn2 ?_
  · rw [ha12.c 20, Nat.add_assoc, hc (c1.length + c2.length) (by omega)]
    have : c1.length + c2.length = (c1 ++ c2).length := by simp
    rw [this, gl1]
  rw [b1, hv2]
  have e2 : s + c1.length + c2.length + 1 = s + (c1.length + c2.length + 1) := by omega
  have e3 : i + c1.length + c2.length + 1 = i + (c1.length + c2.length + 1) := by omega
  rw [e2, e3]
  refine h _ (agu ha12 (by simp) (by decide)) u2e (fun j hj => ?_)
  rw [u2i (by omega), hk2 j (by omega), hk1 j hj]
theorem WC_un {c1 : List Int32} {v1 : lE → Int32} {c : Int32} (w1 : WC G l d c1 v1) (hcc : c = 11126 ∨ c = 11033) (hl1 : 1 ≤ c1.length) : WC G l d (c1 ++ [c]) (fun E => if c = 11126 then -(v1 E) else if v1 E = 0 then 1 else 0) := fun L Q' E len s top i m J h9 hl hE hc hs ht hi h => by
  have hlen : (c1 ++ [c]).length = c1.length + 1 := by simp
  rw [hlen] at hc hs h ⊢
  have e1 : m + (c1.length + 1) = m + 1 + c1.length := by omega
  rw [e1]
  refine w1 L Q' E len s top i _ J h9 hl hE (fun j hj => ?_) (by omega) ht hi (fun J1 ha1 hv1 hk1 => ?_)
  · rw [hc j (by omega), gapp hj]
  refine WS_un (len := len) (c := c) (by rw [ha1.c 17]; exact h9) hl (by omega) (by omega) (by omega) ?_ hcc ?_
  · rw [ha1.c 20, hc c1.length (by omega), gl1]
  rw [hv1]
  have e2 : s + c1.length + 1 = s + (c1.length + 1) := by omega
  have e3 : i + c1.length + 1 = i + (c1.length + 1) := by omega
  rw [e2, e3]
  refine h _ (agu ha1 (by simp) (by decide)) u2e (fun j hj => ?_)
  rw [u2i (by omega), hk1 j hj]
/-- the codes of a reading are right -/
def WD (G : jG) (l : Launch) (d n : Nat) (sub : Nat → zP) : Prop := ∀ i, i ≤ n → (sub i).1 = true → WC G l d (sub i).2.2.1 (sub i).2.2.2
theorem lv_sg {c : Int32} {lv : Nat} (hl : lv < 5) (h : lvOf c = Int32.ofNat lv) : (0 ≤ c.toInt ∧ c.toInt ≤ 200) ∧ c.toInt ≠ 33 ∧ c.toInt ≠ 126 := by
  have hm : ¬ (-1 : Int32) = Int32.ofNat lv := fun z => by rw [zeq, zl_m1, zo (by omega)] at z; omega
  unfold lvOf at h
  by_cases q : c = 37
  · subst q; decide
  rw [if_neg q] at h
  by_cases q : c = 38
  · subst q; decide
  rw [if_neg q] at h
  by_cases q : c = 42
  · subst q; decide
  rw [if_neg q] at h
  by_cases q : c = 43
  · subst q; decide
  rw [if_neg q] at h
  by_cases q : c = 45
  · subst q; decide
  rw [if_neg q] at h
  by_cases q : c = 47
  · subst q; decide
  rw [if_neg q] at h
  by_cases q : c = 60
  · subst q; decide
  rw [if_neg q] at h
  by_cases q : c = 61
  · subst q; decide
  rw [if_neg q] at h
  by_cases q : c = 62
  · subst q; decide
  rw [if_neg q] at h
  by_cases q : c = 124
  · subst q; decide
  rw [if_neg q] at h
  exact absurd h hm
variable {tx : Nat → Int32} {n : Nat} {sub subL subO : Nat → zP}
theorem WD_loop {i lv : Nat} (hs : GD n sub) (hw : WD G l d n sub) (hl : lv < 5) : ∀ f r, GR n i r → (r.1 = true → WC G l d r.2.2.1 r.2.2.2) → (pLoop tx n sub lv f r).1 = true → WC G l d (pLoop tx n sub lv f r).2.2.1 (pLoop tx n sub lv f r).2.2.2 := by
  intro f
  induction f with
  | zero => intro r hr h; exact h
  | succ f ih =>
    intro r hr h
    unfold pLoop
    by_cases q : r.1 = true ∧ lvOf (chr tx n r.2.1) = Int32.ofNat lv
    · rw [if_pos q]
      have hin := lv_in hl q.2
      have hjw : (pJoin tx n sub r).1 = true → WC G l d (pJoin tx n sub r).2.2.1 (pJoin tx n sub r).2.2.2 := fun z => by
        have z : (sub (r.2.1 + 1)).1 = true := z
        have hg := lv_sg hl q.2
        exact WC_bin (h q.1) (hw _ (by omega) z) hg.1 hg.2.1 hg.2.2 (hr.1 q.1).2.2.2 ((hs _ (by omega)).1 z).2.2.2
      by_cases q2 : lv = 2
      · rw [if_pos q2]; exact hjw
      · rw [if_neg q2]
        refine ih _ ?_ hjw
        rcases GD_join hs hr hl q.1 q.2 with z | z
        · exact z.1
        · exact z.2
    · rw [if_neg q]; exact h
theorem WD_lev {lv : Nat} (hs : GD n sub) (hw : WD G l d n sub) (hl : lv < 5) : WD G l d n (pLev tx n sub lv) := fun i hi => WD_loop hs hw hl 120 _ (hs i hi) (hw i hi)
theorem WD_E (hs : GD n sub) (hw : WD G l d n sub) : WD G l d n (pE tx n sub) := by
  have g4 := GD_lev (tx := tx) (lv := 4) hs (by decide)
  have w4 := WD_lev (tx := tx) (lv := 4) hs hw (by decide)
  have g3 := GD_lev (tx := tx) (lv := 3) g4 (by decide)
  have w3 := WD_lev (tx := tx) (lv := 3) g4 w4 (by decide)
  have g2 := GD_lev (tx := tx) (lv := 2) g3 (by decide)
  have w2 := WD_lev (tx := tx) (lv := 2) g3 w3 (by decide)
  have g1 := GD_lev (tx := tx) (lv := 1) g2 (by decide)
  have w1 := WD_lev (tx := tx) (lv := 1) g2 w2 (by decide)
  exact WD_lev (tx := tx) (lv := 0) g1 w1 (by decide)
theorem WD_op (htx : ∀ i, i < n → 0 ≤ (tx i).toInt ∧ (tx i).toInt ≤ 255) {deep : Bool} (hL : deep = true → GD n subL ∧ WD G l d n subL) (hO : deep = true → GD n subO ∧ WD G l d n subO) : WD G l d n (pOp tx n subL subO deep) := fun i hi => by
  unfold pOp
  by_cases q1 : digB (chr tx n i) = true
  · rw [if_pos q1]
    have := pNum_4 htx q1
    exact fun _ => WC_num this.2.2.1 this.2.2.2
  · rw [if_neg q1]
    by_cases q2 : 0 ≤ (nmOf (chr tx n i)).toInt
    · rw [if_pos q2]
      have hb := nmOf_b (c := chr tx n i)
      refine fun _ => WC_name ?_ (by omega)
      rw [zadd (by rw [zl_10000]; omega) (by rw [zl_10000]; omega), zl_10000]
      omega
    · rw [if_neg q2]
      by_cases q3 : deep = false
      · rw [if_pos q3]; exact fun z => absurd (show false = true from z) (by decide)
      · rw [if_neg q3]
        have q3 : deep = true := by simpa using q3
        by_cases q4 : chr tx n i = 40
        · rw [if_pos q4]
          have hin := chr_in q4 (by decide)
          by_cases q5 : (subL (i + 1)).1 = true
          · rw [if_pos q5]
            by_cases q6 : chr tx n (subL (i + 1)).2.1 = 41
            · rw [if_pos q6]; exact fun _ => (hL q3).2 (i + 1) (by omega) q5
            · rw [if_neg q6]; exact fun z => absurd (show false = true from z) (by decide)
          · rw [if_neg q5]; exact fun z => absurd (show false = true from z) (by decide)
        · rw [if_neg q4]
          by_cases q5 : chr tx n i = 33 ∨ chr tx n i = 45
          · rw [if_pos q5]
            have hin : i < n := by
              rcases q5 with z | z
              · exact chr_in z (by decide)
              · exact chr_in z (by decide)
            by_cases q6 : (subO (i + 1)).1 = true
            · rw [if_pos q6]
              have hl1 := (((hO q3).1 (i + 1) (by omega)).1 q6).2.2.2
              have hw := (hO q3).2 (i + 1) (by omega) q6
              by_cases q7 : chr tx n i = 45
              · have := WC_un (c := 11126) hw (Or.inl rfl) hl1
                simp only [if_pos q7]
                simp only [if_pos rfl] at this
                exact fun _ => this
              · have := WC_un (c := 11033) hw (Or.inr rfl) hl1
                simp only [if_neg q7]
                simp only [if_neg (show ¬ (11033 : Int32) = 11126 by decide)] at this
                exact fun _ => this
            · rw [if_neg q6]; exact fun z => absurd (show false = true from z) (by decide)
          · rw [if_neg q5]; exact fun z => absurd (show false = true from z) (by decide)
theorem WD_O (htx : ∀ i, i < n → 0 ≤ (tx i).toInt ∧ (tx i).toInt ≤ 255) : ∀ k, WD G l d n (pO tx n k) := by
  intro k
  induction k with
  | zero => exact WD_op htx (fun z => absurd z (by decide)) (fun z => absurd z (by decide))
  | succ k ih => exact WD_op htx (fun _ => ⟨GD_E (GD_O htx k), WD_E (GD_O htx k) ih⟩) (fun _ => ⟨GD_O htx k, ih⟩)
end WK

/-! lines and whole texts, worked -/
section TX
variable {G : jG} {l : Launch} {d : Nat} {I : jS} {L : jL} {tx : Nat → Int32} {n : Nat} {sub : Nat → zP}
theorem WS_end {Q' : Option Value → jS → jL → Prop} {len s t i m : Nat} {J : jS} (h9 : (J 17 9).toInt = len) (hl : len ≤ 121) (hs : s < len) (ht : t + 1 ≤ s) (hi : i ≤ s) (hc : J 20 s = 12000) (h : Q' (some (.int (J 21 t))) J L) : wX6_work_6 G l (d + 1) Q' (m + 1) (Int32.ofNat s) (Int32.ofNat (t + 1)) (Int32.ofNat i) J L := by
  have p0 := zpr (k := t) (by omega)
  unfold wX6_work_6
  rw [if_neg (by rw [zle, h9, zo (by omega)]; omega), if_neg (by rw [zle, h9, zo (by omega)]; omega), if_neg (by rw [zle, zl_121, zo (by omega)]; omega)]
  refine ⟨by rw [zin, zo (by omega)]; omega, ?_⟩
  rw [zon (by omega), hc, if_pos (by decide), if_pos (by rw [zle, z1, zo (by omega)]; omega), if_pos rfl, p0.2]
  refine ⟨by rw [zin, zo (by omega)]; omega, ?_⟩
  rw [zon (by omega)]
  exact h
theorem WS_test {Q' : Option Value → jS → jL → Prop} {len s t i m e : Nat} {J : jS} (h9 : (J 17 9).toInt = len) (hl : len ≤ 121) (hs : s < len) (ht : t + 1 ≤ s) (hi : i ≤ s) (he : e ≤ 1000) (hc : J 20 s = 13000 + Int32.ofNat e)
    (h1 : J 21 t = 0 → wX6_work_6 G l (d + 1) Q' m (Int32.ofNat e) (Int32.ofNat t) (Int32.ofNat (i + 1)) J L) (h2 : ¬ J 21 t = 0 → wX6_work_6 G l (d + 1) Q' m (Int32.ofNat (s + 1)) (Int32.ofNat t) (Int32.ofNat (i + 1)) J L) : wX6_work_6 G l (d + 1) Q' (m + 1) (Int32.ofNat s) (Int32.ofNat (t + 1)) (Int32.ofNat i) J L := by
  have p0 := zpr (k := t) (by omega)
  have ec : (13000 + Int32.ofNat e).toInt = 13000 + e := by rw [zadd (by rw [zl_13000, zo (by omega)]; omega) (by rw [zl_13000, zo (by omega)]; omega), zl_13000, zo (by omega)]
  have ee : 13000 + Int32.ofNat e - 13000 = Int32.ofNat e := by rw [zeq, zsub (by rw [ec, zl_13000]; omega) (by rw [ec, zl_13000]; omega), ec, zl_13000, zo (by omega)]; omega
  unfold wX6_work_6
  rw [if_neg (by rw [zle, h9, zo (by omega)]; omega), if_neg (by rw [zle, h9, zo (by omega)]; omega), if_neg (by rw [zle, zl_121, zo (by omega)]; omega)]
  refine ⟨by rw [zin, zo (by omega)]; omega, ?_⟩
  rw [zon (by omega), hc, if_pos (by rw [zle, zl_11000, ec]; omega), if_pos (by rw [zle, z1, zo (by omega)]; omega), if_neg (by rw [zeq, zl_12000, ec]; omega), if_neg (by rw [zlt, zl_13000, ec]; omega), p0.1]
  refine ⟨by rw [zin, zo (by omega)]; omega, ?_⟩
  rw [zon (by omega), ee, zsucc, zsucc]
  exact ife h1 h2
/-- where a line ends -/
theorem GLn {s i : Nat} (hs : GD n sub) (hi : i ≤ n) : ((pLn tx n sub s i).1 = true → i < (pLn tx n sub s i).2.1 ∧ (pLn tx n sub s i).2.2.1.length + i ≤ (pLn tx n sub s i).2.1 + 1 ∧ 1 ≤ (pLn tx n sub s i).2.2.1.length) ∧ (pLn tx n sub s i).2.1 ≤ n := by
  unfold pLn
  have h1 := hs i hi
  by_cases q1 : (sub i).1 = true
  · rw [if_pos q1]
    obtain ⟨a1, a2, a3, a4⟩ := h1.1 q1
    by_cases q2 : chr tx n (sub i).2.1 = 63
    · rw [if_pos q2]
      have hin := chr_in q2 (by decide)
      have h2 := hs ((sub i).2.1 + 1) (by omega)
      refine ⟨fun z => ?_, h2.2⟩
      obtain ⟨b1, b2, b3, b4⟩ := h2.1 z
      simp only [List.length_append, List.length_cons, List.length_nil]
      omega
    · rw [if_neg q2]
      refine ⟨fun _ => ?_, a2⟩
      simp only [List.length_append, List.length_cons, List.length_nil]
      omega
  · rw [if_neg q1]
    exact ⟨fun z => absurd (show false = true from z) (by decide), h1.2⟩
/-- a line, worked -/
theorem LX {s i len mz : Nat} {E : lE} (hs : GD n sub) (hw : WD G l d n sub) (hi : i ≤ n) (hok : (pLn tx n sub s i).1 = true) (hl : len ≤ 121) (hle : s + (pLn tx n sub s i).2.2.1.length ≤ len) :
    ∃ m, ∀ (L : jL) (Q' : Option Value → jS → jL → Prop) (J : jS) (k : Nat), (J 17 9).toInt = len → (∀ k, k < 6 → J 22 k = E k) → (∀ j, j < (pLn tx n sub s i).2.2.1.length → J 20 (s + j) = (pLn tx n sub s i).2.2.1.getD j 0) → k ≤ s →
      ((pLn tx n sub s i).2.2.2.1 E = 0 → ∀ J' k', ag [21] [] J J' → k' ≤ s + (pLn tx n sub s i).2.2.1.length → wX6_work_6 G l (d + 1) Q' mz (Int32.ofNat (s + (pLn tx n sub s i).2.2.1.length)) 0 (Int32.ofNat k') J' L) →
      (¬ (pLn tx n sub s i).2.2.2.1 E = 0 → ∀ J', ag [21] [] J J' → Q' (some (.int ((pLn tx n sub s i).2.2.2.2 E))) J' L) → wX6_work_6 G l (d + 1) Q' m (Int32.ofNat s) 0 (Int32.ofNat k) J L := by
  unfold pLn at *
  by_cases q1 : (sub i).1 = true
  case neg => rw [if_neg q1] at hok; exact absurd (show false = true from hok) (by decide)
  rw [if_pos q1] at *
  obtain ⟨a1, a2, a3, a4⟩ := (hs i hi).1 q1
  by_cases q2 : chr tx n (sub i).2.1 = 63
  · rw [if_pos q2] at *
    have hin := chr_in q2 (by decide)
    have hok : (sub ((sub i).2.1 + 1)).1 = true := hok
    obtain ⟨b1, b2, b3, b4⟩ := (hs ((sub i).2.1 + 1) (by omega)).1 hok
    have w1 := hw i hi q1
    have w2 := hw ((sub i).2.1 + 1) (by omega) hok
    simp only at hle ⊢
    generalize (sub i).2.2.2 = v1 at *
    generalize (sub ((sub i).2.1 + 1)).2.2.2 = v2 at *
    generalize hc1 : (sub i).2.2.1 = c1 at *
    generalize hc2 : (sub ((sub i).2.1 + 1)).2.2.1 = c2 at *
    have hlen : (c1 ++ ((13000 + Int32.ofNat (s + (c1.length + (c2.length + 2)))) :: (c2 ++ [12000]))).length = c1.length + (c2.length + 2) := by simp
    rw [hlen] at hle ⊢
    have f1 : ∀ J : jS, (∀ j, j < c1.length + (c2.length + 2) → J 20 (s + j) = (c1 ++ ((13000 + Int32.ofNat (s + (c1.length + (c2.length + 2)))) :: (c2 ++ [12000]))).getD j 0) → ∀ j, j < c1.length → J 20 (s + j) = c1.getD j 0 := fun J hc j hj => by rw [hc j (by omega), gapp hj]
    have f2 : ∀ J : jS, (∀ j, j < c1.length + (c2.length + 2) → J 20 (s + j) = (c1 ++ ((13000 + Int32.ofNat (s + (c1.length + (c2.length + 2)))) :: (c2 ++ [12000]))).getD j 0) → J 20 (s + c1.length) = 13000 + Int32.ofNat (s + (c1.length + (c2.length + 2))) := fun J hc => by
      have := hc (c1.length + 0) (by omega)
      rw [gapp2] at this
      exact this
    have f3 : ∀ J : jS, (∀ j, j < c1.length + (c2.length + 2) → J 20 (s + j) = (c1 ++ ((13000 + Int32.ofNat (s + (c1.length + (c2.length + 2)))) :: (c2 ++ [12000]))).getD j 0) → ∀ j, j < c2.length → J 20 (s + c1.length + 1 + j) = c2.getD j 0 := fun J hc j hj => by
      have := hc (c1.length + (j + 1)) (by omega)
      rw [gapp2] at this
      rw [show s + c1.length + 1 + j = s + (c1.length + (j + 1)) by omega, this]
      show (c2 ++ [12000]).getD j 0 = c2.getD j 0
      exact gapp hj
    have f4 : ∀ J : jS, (∀ j, j < c1.length + (c2.length + 2) → J 20 (s + j) = (c1 ++ ((13000 + Int32.ofNat (s + (c1.length + (c2.length + 2)))) :: (c2 ++ [12000]))).getD j 0) → J 20 (s + c1.length + 1 + c2.length) = 12000 := fun J hc => by
      have := hc (c1.length + (c2.length + 1)) (by omega)
      rw [gapp2] at this
      rw [show s + c1.length + 1 + c2.length = s + (c1.length + (c2.length + 1)) by omega, this]
      show (c2 ++ [12000]).getD c2.length 0 = 12000
      exact gl1
    by_cases qz : v1 E = 0
    · refine ⟨mz + 1 + c1.length, fun L Q' J k h9 hE hc hk h1 h2 => ?_⟩
      refine w1 L Q' E len s 0 k _ J h9 hl hE (f1 J hc) (by omega) (by omega) hk (fun J1 ha1 hv1 _ => ?_)
      refine WS_test (len := len) (t := 0) (e := s + (c1.length + (c2.length + 2))) (by rw [ha1.c 17]; exact h9) hl (by omega) (by omega) (by omega) (by omega) (by rw [ha1.c 20]; exact f2 J hc) (fun z => ?_) (fun z => ?_)
      · exact h1 qz J1 (k + c1.length + 1) ha1 (by omega)
      · rw [hv1] at z; exact absurd qz z
    · refine ⟨(1 + c2.length) + 1 + c1.length, fun L Q' J k h9 hE hc hk h1 h2 => ?_⟩
      refine w1 L Q' E len s 0 k _ J h9 hl hE (f1 J hc) (by omega) (by omega) hk (fun J1 ha1 hv1 _ => ?_)
      refine WS_test (len := len) (t := 0) (e := s + (c1.length + (c2.length + 2))) (by rw [ha1.c 17]; exact h9) hl (by omega) (by omega) (by omega) (by omega) (by rw [ha1.c 20]; exact f2 J hc) (fun z => ?_) (fun z => ?_)
      · rw [hv1] at z; exact absurd z qz
      · refine w2 L Q' E len (s + c1.length + 1) 0 (k + c1.length + 1) 1 J1 (by rw [ha1.c 17]; exact h9) hl (fun k hk => by rw [ha1.c 22]; exact hE k hk) (fun j hj => by rw [ha1.c 20]; exact f3 J hc j hj) (by omega) (by omega) (by omega) (fun J2 ha2 hv2 _ => ?_)
        have ha12 : ag [21] [] J J2 := ha1.th ha2
        refine WS_end (len := len) (m := 0) (by rw [ha12.c 17]; exact h9) hl (by omega) (by omega) (by omega) (by rw [ha12.c 20]; exact f4 J hc) ?_
        rw [hv2]
        exact h2 qz J2 ha12
  · rw [if_neg q2] at *
    simp only at hle ⊢
    have w1 := hw i hi q1
    generalize (sub i).2.2.2 = v1 at *
    generalize hc1 : (sub i).2.2.1 = c1 at *
    have hlen : (c1 ++ [(12000 : Int32)]).length = c1.length + 1 := by simp
    rw [hlen] at hle ⊢
    refine ⟨1 + c1.length, fun L Q' J k h9 hE hc hk h1 h2 => ?_⟩
    refine w1 L Q' E len s 0 k 1 J h9 hl hE (fun j hj => by rw [hc j (by omega), gapp hj]) (by omega) (by omega) hk (fun J1 ha1 hv1 _ => ?_)
    refine WS_end (len := len) (m := 0) (by rw [ha1.c 17]; exact h9) hl (by omega) (by omega) (by omega) (by rw [ha1.c 20, hc c1.length (by omega)]; exact gl1) ?_
    rw [hv1]
    exact h2 (by decide) J1 ha1
/-- where a text ends -/
theorem PT_b (hs : GD n sub) : ∀ f i cs, i ≤ n → cs.length ≤ i → ((pT tx n sub f i cs).1 = true → (∃ rest, (pT tx n sub f i cs).2.2.1 = cs ++ rest ∧ 1 ≤ rest.length) ∧ (pT tx n sub f i cs).2.2.1.length ≤ n + 1) ∧ (pT tx n sub f i cs).2.1 ≤ n := by
  intro f
  induction f with
  | zero => intro i cs hi hc; exact ⟨fun z => absurd (show false = true from z) (by decide), hi⟩
  | succ f ih =>
    intro i cs hi hc
    have hg := GLn (tx := tx) (s := cs.length) hs hi
    unfold pT
    generalize pLn tx n sub cs.length i = Ln at *
    by_cases q1 : Ln.1 = true
    · rw [if_pos q1]
      obtain ⟨a1, a2, a3⟩ := hg.1 q1
      by_cases q2 : chr tx n Ln.2.1 = 59
      · rw [if_pos q2]
        have hin := chr_in q2 (by decide)
        have := ih (Ln.2.1 + 1) (cs ++ Ln.2.2.1) (by omega) (by rw [List.length_append]; omega)
        refine ⟨fun z => ?_, this.2⟩
        obtain ⟨⟨rest, e1, e2⟩, e3⟩ := this.1 z
        refine ⟨⟨Ln.2.2.1 ++ rest, ?_, by rw [List.length_append]; omega⟩, e3⟩
        rw [← List.append_assoc]
        exact e1
      · rw [if_neg q2]
        by_cases q3 : Ln.2.1 < n
        · rw [if_pos q3]; exact ⟨fun z => absurd (show false = true from z) (by decide), hg.2⟩
        · rw [if_neg q3]
          refine ⟨fun _ => ⟨⟨Ln.2.2.1, rfl, a3⟩, ?_⟩, hg.2⟩
          simp only [List.length_append]
          omega
    · rw [if_neg q1]; exact ⟨fun z => absurd (show false = true from z) (by decide), hg.2⟩
/-- a text, worked -/
theorem WT_T (hs : GD n sub) (hw : WD G l d n sub) (hn : n ≤ 120) (E : lE) : ∀ f i cs, i ≤ n → cs.length ≤ i → (pT tx n sub f i cs).1 = true →
    ∃ m, ∀ (L : jL) (Q' : Option Value → jS → jL → Prop) (J : jS) (k : Nat), (J 17 9).toInt = ((pT tx n sub f i cs).2.2.1.length : Nat) → (∀ k, k < 6 → J 22 k = E k) → (∀ j, j < (pT tx n sub f i cs).2.2.1.length → J 20 j = (pT tx n sub f i cs).2.2.1.getD j 0) → k ≤ cs.length →
      (∀ J', ag [21] [] J J' → Q' (some (.int ((pT tx n sub f i cs).2.2.2 E))) J' L) → wX6_work_6 G l (d + 1) Q' m (Int32.ofNat cs.length) 0 (Int32.ofNat k) J L := by
  intro f
  induction f with
  | zero => intro i cs hi hc z; exact absurd (show false = true from z) (by decide)
  | succ f ih =>
    intro i cs hi hc
    have hg := GLn (tx := tx) (s := cs.length) hs hi
    have hpb := PT_b (tx := tx) hs (f + 1) i cs hi hc
    have hLX := fun (len mz : Nat) (h1 : (pLn tx n sub cs.length i).1 = true) (h2 : len ≤ 121) (h3 : cs.length + (pLn tx n sub cs.length i).2.2.1.length ≤ len) => LX (G := G) (l := l) (d := d) (tx := tx) (s := cs.length) (mz := mz) (E := E) hs hw hi h1 h2 h3
    unfold pT at hpb ⊢
    generalize pLn tx n sub cs.length i = Ln at *
    by_cases q1 : Ln.1 = true
    · rw [if_pos q1] at hpb ⊢
      obtain ⟨a1, a2, a3⟩ := hg.1 q1
      by_cases q2 : chr tx n Ln.2.1 = 59
      · rw [if_pos q2] at hpb ⊢
        have hin := chr_in q2 (by decide)
        have hlc : (cs ++ Ln.2.2.1).length = cs.length + Ln.2.2.1.length := List.length_append
        have hi2 := ih (Ln.2.1 + 1) (cs ++ Ln.2.2.1) (by omega) (by omega)
        have hp2 := PT_b (tx := tx) hs f (Ln.2.1 + 1) (cs ++ Ln.2.2.1) (by omega) (by omega)
        simp only at hpb ⊢
        generalize pT tx n sub f (Ln.2.1 + 1) (cs ++ Ln.2.2.1) = r at *
        intro hok
        obtain ⟨⟨rest, e1, e2⟩, e3⟩ := hp2.1 hok
        obtain ⟨mz, hmz⟩ := hi2 hok
        have hrl : r.2.2.1.length = cs.length + Ln.2.2.1.length + rest.length := by rw [e1, List.length_append, hlc]
        obtain ⟨m, hm⟩ := hLX r.2.2.1.length mz q1 (by omega) (by omega)
        refine ⟨m, fun L Q' J k h9 hE hcd hk hq => ?_⟩
        refine hm L Q' J k h9 hE (fun j hj => ?_) hk (fun hz J' k' ha hk' => ?_) (fun hz J' ha => ?_)
        · rw [hcd (cs.length + j) (by omega), e1, List.append_assoc, gapp2, gapp hj]
        · rw [← hlc]
          refine hmz L Q' J' k' (by rw [ha.c 17]; exact h9) (fun k hk => by rw [ha.c 22]; exact hE k hk) (fun j hj => by rw [ha.c 20]; exact hcd j hj) (by omega) (fun J2 ha2 => ?_)
          have := hq J2 (ha.th ha2)
          rw [if_pos hz] at this
          exact this
        · have := hq J' ha
          rw [if_neg hz] at this
          exact this
      · rw [if_neg q2] at hpb ⊢
        by_cases q3 : Ln.2.1 < n
        · rw [if_pos q3]; intro z; exact absurd (show false = true from z) (by decide)
        · rw [if_neg q3] at hpb ⊢
          intro _
          have hlc : (cs ++ Ln.2.2.1).length = cs.length + Ln.2.2.1.length := List.length_append
          simp only at hpb ⊢
          have hl121 := (hpb.1 trivial).2
          rw [hlc] at hl121 ⊢
          obtain ⟨m, hm⟩ := hLX (cs.length + Ln.2.2.1.length) 1 q1 (by omega) (by omega)
          refine ⟨m, fun L Q' J k h9 hE hcd hk hq => ?_⟩
          refine hm L Q' J k h9 hE (fun j hj => ?_) hk (fun hz J' k' ha hk' => ?_) (fun hz J' ha => ?_)
          · rw [hcd (cs.length + j) (by omega), gapp2]
          · have := hq J' ha
            rw [if_pos hz] at this
            unfold wX6_work_6
            refine ife (fun _ => this) (fun _ => ?_)
            rw [if_pos (by rw [zle, ha.c 17, h9, zo (by omega)]; omega)]
            exact this
          · have := hq J' ha
            rw [if_neg hz] at this
            exact this
    · rw [if_neg q1]; intro z; exact absurd (show false = true from z) (by decide)
end TX

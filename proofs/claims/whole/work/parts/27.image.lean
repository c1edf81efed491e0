/-! image, back, body -/
section IM
variable {LR : jLR} {G : jG} {l : Launch} {d k : Nat} {I : jS} {L : jL} {K : Int32 → Int32 → jS → jL → Prop}
theorem tX4_keepImage {Q : jS → jL → Prop} (h : Q (u2 (u2 (cpk (cpk I 29 27 24) 30 28 5) 24 4 (I 25 2)) 24 5 1) L) : cV G l mX4_keepImage (d + 1) [.ref 24] I L Q := by
  refine wX4_keepImage_ok ?_
  unfold wX4_keepImage
  refine ⟨jcok0 (n := 24) (by decide) (by decide) (by decide), jcok0 (n := 5) (by decide) (by decide) (by decide), rv ?_⟩
  rw [jcpy_cpk (n := 24) (N := 24) (by decide), jcpy_cpk (n := 5) (N := 5) (by decide)]
  rw [show (cpk (cpk I 29 27 24) 30 28 5) 25 2 = I 25 2 by simp [cpk_ap]]
  exact h
/-- the leds laid behind the image's squares -/
def imL (I : jS) (k : Nat) : jS := fun r => if r = 86 then (fun i => if 25 ≤ i ∧ i < 25 + k then I 71 (36 + (i - 25)) else I r i) else I r
theorem imL_ap {I : jS} {k r i : Nat} : imL I k r i = if r = 86 ∧ 25 ≤ i ∧ i < 25 + k then I 71 (36 + (i - 25)) else I r i := by
  unfold imL
  by_cases h : r = 86
  · subst h
    by_cases hi : 25 ≤ i ∧ i < 25 + k
    · simp [hi]
    · rw [if_pos rfl, if_neg hi, if_neg (fun q => hi q.2)]
  · simp [h]
theorem imL_succ {I : jS} {k : Nat} : u2 (imL I k) 86 (25 + k) (I 71 (36 + k)) = imL I (k + 1) := by
  funext r i
  rw [u2_ap, imL_ap, imL_ap]
  by_cases h1 : r = 86 ∧ i = 25 + k
  · rw [if_pos h1, if_pos (by omega), h1.2]
    congr 1
    omega
  · rw [if_neg h1]
    by_cases h2 : r = 86 ∧ 25 ≤ i ∧ i < 25 + k
    · rw [if_pos h2, if_pos (by omega)]
    · rw [if_neg h2, if_neg (by omega)]
theorem image_44 {Q : Option Value → jS → jL → Prop} (h : Q (some (.int (I 71 8))) (imL I 5) L) : ∀ m k, k + m = 5 → wX12_image_44 G l (d + 1) Q (m + 1) (Int32.ofNat k) (imL I k) L := by
  intro m
  induction m with
  | zero =>
    intro k hk
    have : k = 5 := by omega
    subst this
    unfold wX12_image_44
    rw [if_pos (by decide)]
    rw [show imL I 5 71 8 = I 71 8 by rw [imL_ap, if_neg (by omega)]]
    exact h
  | succ m ih =>
    intro k hk
    unfold wX12_image_44
    rw [if_neg (by rw [zle, zo (by omega), zl_5]; omega)]
    refine tX12_led (fun c => ?_) (fun c1 c2 => ?_)
    · rw [zo (by omega)] at c; omega
    · have e1 : (25 + Int32.ofNat k).toInt = 25 + (k : Int) := by rw [zadd (by rw [zo (by omega), zl_25]; omega) (by rw [zo (by omega), zl_25]; omega), zo (by omega), zl_25]
      refine ⟨by rw [zin, e1]; omega, ?_⟩
      have e2 : imL I k 71 (36 + (Int32.ofNat k).toInt.toNat) = I 71 (36 + k) := by rw [zo (by omega), imL_ap, if_neg (by omega)]; rfl
      rw [e2, znat, e1, zsucc, show (25 + (k : Int)).toNat = 25 + k by omega, imL_succ]
      exact ih (k + 1) (by omega)
theorem image_7 {Q : Option Value → jS → jL → Prop} (h : ∃ e, wX12_image_44 G l d Q e 0 (u2 (cpk I 86 76 24) 86 24 (I 71 8)) L) : ∀ m k, k + m = 24 → wX12_image_7 G l d Q (m + 1) (Int32.ofNat k) (cpk I 86 76 k) L := by
  intro m
  induction m with
  | zero =>
    intro k hk
    have : k = 24 := by omega
    subst this
    unfold wX12_image_7
    rw [if_pos (by decide), show cpk I 86 76 24 71 8 = I 71 8 by rw [cpk_ap, if_neg (by omega)]]
    exact h
  | succ m ih =>
    intro k hk
    unfold wX12_image_7
    rw [if_neg (by rw [zle, zo (by omega), zl_24]; omega)]
    refine ⟨by rw [zin, zo (by omega)]; omega, by rw [zin, zo (by omega)]; omega, ?_⟩
    rw [zon (by omega), cpk_src (by decide), cpk_succ (by decide), zsucc]
    exact ih (k + 1) (by omega)
theorem tX12_image {Q : Int32 → jS → jL → Prop} (h : Q (I 71 8) (imL (u2 (cpk (u2 I 71 41 1) 86 76 24) 86 24 (I 71 8)) 5) L) : cI G l mX12_image (d + 2) [.ref 71] I L Q := by
  refine wX12_image_ok ?_
  unfold wX12_image
  refine ⟨25, ?_⟩
  have e : (u2 I 71 41 1) 71 8 = I 71 8 := u2i (by decide)
  have h2 := image_7 (G := G) (l := l) (d := d + 1) (I := u2 I 71 41 1) (L := L) (Q := fun v I' L' => ∃ r, v = some (.int r) ∧ Q r I' L') (by
    refine ⟨6, ?_⟩
    have h3 := image_44 (G := G) (l := l) (d := d) (I := u2 (cpk (u2 I 71 41 1) 86 76 24) 86 24 ((u2 I 71 41 1) 71 8)) (L := L) (Q := fun v I' L' => ∃ r, v = some (.int r) ∧ Q r I' L') (by
      refine ri ?_
      rw [e, show (u2 (cpk (u2 I 71 41 1) 86 76 24) 86 24 (I 71 8)) 71 8 = I 71 8 by simp [u2_ap, cpk_ap]]
      exact h) 5 0 (by omega)
    have e0 : ∀ J : jS, imL J 0 = J := fun J => by
      funext r i
      rw [imL_ap, if_neg (by omega)]
    rw [e0] at h3
    exact h3) 24 0 (by omega)
  rw [cpk_zero] at h2
  exact h2
theorem T_image (h : Inv LR k I L) (hk : ∀ r I' L', Inv LR (k + 1) I' L' → K r r I' L') :
    cI G l mX11_image (d + 9) [.ref 0] I L (fun r I1 L1 => cI G l mX12_image (d + 9) [.ref 71] I1 L1 (fun r' I2 L2 => K r r' I2 L2)) := by
  obtain ⟨hP, hC, hI, hT, hR, hD, hG, hA, hS, hM⟩ := id h
  refine two (P := fun r I1 L1 => L1 = L ∧ r = I 25 2 ∧ I1 = u2 (u2 (cpk (cpk I 29 27 24) 30 28 5) 24 4 (I 25 2)) 24 5 1) (fun Q hq => ?_) (fun r I1 L1 hp Q hq => ?_) hk
  · refine wX11_image_ok ?_
    unfold wX11_image
    refine tX4_keepImage (ri (hq _ _ _ ⟨rfl, ?_, rfl⟩))
    simp [u2_ap, cpk_ap]
  · obtain ⟨rfl, rfl, hI1⟩ := hp
    have e8 : I1 71 8 = I 25 2 := by rw [hI1]; simp only [u2_ap, cpk_ap]; simp [hI.2.1]
    refine tX12_image ?_
    rw [e8]
    refine hq _ _ ?_
    have ha : ag [24, 29, 30, 86] [41] I (imL (u2 (cpk (u2 I1 71 41 1) 86 76 24) 86 24 (I 25 2)) 5) := by
      have h1 : ag [24, 29, 30, 86] [41] I I1 := by
        rw [hI1]
        exact agu (agu (agc (agc ag.rf (by decide) (by decide)) (by decide) (by decide)) (by decide) (by decide)) (by decide) (by decide)
      have h2 : ag [24, 29, 30, 86] [41] I (u2 (cpk (u2 I1 71 41 1) 86 76 24) 86 24 (I 25 2)) := agu (agc (agm h1 (by decide)) (by decide) (by decide)) (by decide) (by decide)
      refine ⟨fun z h3 h4 => ?_, fun z hz => ?_⟩
      · have hz : z ≠ 86 := fun e => h4 (by rw [e]; decide)
        have : imL (u2 (cpk (u2 I1 71 41 1) 86 76 24) 86 24 (I 25 2)) 5 z = (u2 (cpk (u2 I1 71 41 1) 86 76 24) 86 24 (I 25 2)) z := by unfold imL; rw [if_neg hz]
        rw [this]
        exact h2.1 z h3 h4
      · rw [imL_ap, if_neg (by omega)]
        exact h2.2 z hz
    refine ⟨hP.ag ha rfl, hC.ag ha rfl (by rw [ha.1 1 (by decide) (by decide)]; omega), hI.ag ha rfl (by omega), hT.ag ha rfl, LR_ag hR ha rfl, hD.ag ha rfl, ?_, hA.ag ha rfl, hS.ag ha rfl, hM.ag ha rfl rfl⟩
    subst hI1
    refine ⟨?_, Or.inr ?_, fun _ => ⟨fun s hs => ?_, ?_, ?_, fun j hj => ?_⟩⟩
    · simp [imL_ap, u2_ap, cpk_ap]
    · simp [imL_ap, u2_ap, cpk_ap]
    · obtain ⟨a1, a2, a3⟩ := hI.1 s hs
      simp only [imL_ap, u2_ap, cpk_ap]
      have n1 : ¬ 25 ≤ s := by omega
      have n2 : ¬ s = 24 := by omega
      simp [n1, n2, hs, a1, a2, a3]
    · simp [imL_ap, u2_ap, cpk_ap]
    · have : (imL (u2 (cpk (u2 (u2 (u2 (cpk (cpk I 29 27 24) 30 28 5) 24 4 (I 25 2)) 24 5 1) 71 41 1) 86 76 24) 86 24 (I 25 2)) 5) 24 4 = I 25 2 := by simp [imL_ap, u2_ap, cpk_ap]
      rw [this]
      have := hI.2.2
      omega
    · have hd := hD j hj
      simp only [imL_ap, u2_ap, cpk_ap]
      have n1 : 25 ≤ 25 + j ∧ 25 + j < 25 + 5 := by omega
      have n2 : 25 + j - 25 = j := by omega
      have n3 : ¬ 36 + j = 41 := by omega
      simp [n1, n2, n3, hj, hd]
theorem tX4_layImage {Q : Int32 → jS → jL → Prop} (h1 : I 24 5 = 0 → Q 0 I L) (h2 : ¬ I 24 5 = 0 → Q 1 (u2 (cpk (cpk I 27 29 24) 28 30 5) 25 2 (I 24 4)) L) : cI G l mX4_layImage (d + 1) [.ref 24] I L Q := by
  refine wX4_layImage_ok ?_
  unfold wX4_layImage
  refine ife (fun c => ri (h1 c)) (fun c => ⟨jcok0 (n := 24) (by decide) (by decide) (by decide), jcok0 (n := 5) (by decide) (by decide) (by decide), ri ?_⟩)
  rw [jcpy_cpk (n := 24) (N := 24) (by decide), jcpy_cpk (n := 5) (N := 5) (by decide)]
  rw [show (cpk (cpk I 27 29 24) 28 30 5) 24 4 = I 24 4 by simp [cpk_ap]]
  exact h2 c
theorem back_12 {Q : Option Value → jS → jL → Prop} (h : Q (some (.int (I 86 24))) (u2 (u2 (u2 (u2 (u2 (u2 (cpk I 76 86 24) 71 8 (I 86 24)) 71 36 (I 86 25)) 71 37 (I 86 26)) 71 38 (I 86 27)) 71 39 (I 86 28)) 71 40 (I 86 29)) L) : ∀ m k, k + m = 24 → wX12_back_12 G l d Q (m + 1) (Int32.ofNat k) (cpk I 76 86 k) L := by
  intro m
  induction m with
  | zero =>
    intro k hk
    have : k = 24 := by omega
    subst this
    unfold wX12_back_12
    rw [if_pos (by decide)]
    simp only [cpk_src (show (86 : Nat) ≠ 76 by decide)]
    exact h
  | succ m ih =>
    intro k hk
    unfold wX12_back_12
    rw [if_neg (by rw [zle, zo (by omega), zl_24]; omega)]
    refine ⟨by rw [zin, zo (by omega)]; omega, by rw [zin, zo (by omega)]; omega, ?_⟩
    rw [zon (by omega), cpk_src (by decide), cpk_succ (by decide), zsucc]
    exact ih (k + 1) (by omega)
theorem tX12_back {Q : Int32 → jS → jL → Prop} (h1 : I 71 41 = 0 → Q (-5) I L) (h2 : ¬ I 71 41 = 0 → Q (I 86 24) (u2 (u2 (u2 (u2 (u2 (u2 (cpk I 76 86 24) 71 8 (I 86 24)) 71 36 (I 86 25)) 71 37 (I 86 26)) 71 38 (I 86 27)) 71 39 (I 86 28)) 71 40 (I 86 29)) L) : cI G l mX12_back (d + 1) [.ref 71] I L Q := by
  refine wX12_back_ok ?_
  unfold wX12_back
  refine ife (fun c => ri (h1 c)) (fun c => ⟨25, ?_⟩)
  have h3 := back_12 (G := G) (l := l) (d := d) (I := I) (L := L) (Q := fun v I' L' => ∃ r, v = some (.int r) ∧ Q r I' L') (ri (h2 c)) 24 0 (by omega)
  rw [cpk_zero] at h3
  exact h3
theorem T_back (h : Inv LR k I L) (hk : ∀ r I' L', Inv LR (k + 1) I' L' → K r r I' L') :
    cI G l mX11_back (d + 9) [.ref 0] I L (fun r I1 L1 => cI G l mX12_back (d + 9) [.ref 71] I1 L1 (fun r' I2 L2 => K r r' I2 L2)) := by
  obtain ⟨hP, hC, hI, hT, hR, hD, hG, hA, hS, hM⟩ := id h
  obtain ⟨g1, g2, g3⟩ := hG
  refine two (P := fun r I1 L1 => L1 = L ∧ ((I 24 5 = 0 ∧ r = -5 ∧ I1 = I) ∨ (¬ I 24 5 = 0 ∧ r = I 24 4 ∧ I1 = u2 (cpk (cpk I 27 29 24) 28 30 5) 25 2 (I 24 4)))) (fun Q hq => ?_) (fun r I1 L1 hp Q hq => ?_) hk
  · refine wX11_back_ok ?_
    unfold wX11_back
    refine tX4_layImage (fun c => ?_) (fun c => ?_)
    · rw [if_pos rfl]; exact ri (hq _ _ _ ⟨rfl, Or.inl ⟨c, rfl, rfl⟩⟩)
    · rw [if_neg (by decide)]
      refine ri (hq _ _ _ ⟨rfl, Or.inr ⟨c, ?_, rfl⟩⟩)
      rw [u2e]
  · obtain ⟨rfl, hp⟩ := hp
    rcases hp with ⟨c, rfl, rfl⟩ | ⟨c, rfl, hI1⟩
    · exact tX12_back (fun _ => hq _ _ h.up) (fun q => absurd (g1.trans c) q)
    · have e41 : I1 71 41 = I 24 5 := by rw [hI1]; simp only [u2_ap, cpk_ap]; simp [g1]
      have e86 : I1 86 = I 86 := by rw [hI1, u2_ne 86 (by decide), cpk_ne (by decide), cpk_ne (by decide)]
      obtain ⟨q1, q2, q3, q4⟩ := g3 (g2.resolve_left c)
      refine tX12_back (fun q => absurd (e41 ▸ q) c) (fun _ => ?_)
      rw [e86, q2]
      refine hq _ _ ?_
      have h1 : ag [25, 27, 28, 76] [8, 36, 37, 38, 39, 40] I I1 := by
        rw [hI1]
        exact agu (agc (agc ag.rf (by decide) (by decide)) (by decide) (by decide)) (by decide) (by decide)
      have ha : ag [25, 27, 28, 76] [8, 36, 37, 38, 39, 40] I (u2 (u2 (u2 (u2 (u2 (u2 (cpk I1 76 86 24) 71 8 (I 24 4)) 71 36 (I 86 25)) 71 37 (I 86 26)) 71 38 (I 86 27)) 71 39 (I 86 28)) 71 40 (I 86 29)) :=
        agm (agm (agm (agm (agm (agm (agc h1 (by decide) (by decide)) (by decide)) (by decide)) (by decide)) (by decide)) (by decide)) (by decide)
      refine ⟨hP.ag ha rfl, hC.ag ha rfl (by rw [ha.1 1 (by decide) (by decide)]; omega), ?_, hT.ag ha rfl, LR_ag hR ha rfl, ?_, InvG.ag ⟨g1, g2, g3⟩ ha rfl (by omega), hA.ag ha rfl, hS.ag ha rfl, hM.ag ha rfl rfl⟩
      · refine ⟨fun s hs => ?_, ?_, ?_⟩
        · obtain ⟨a1, a2, a3⟩ := q1 s hs
          have e1 : (u2 (u2 (u2 (u2 (u2 (u2 (cpk I1 76 86 24) 71 8 (I 24 4)) 71 36 (I 86 25)) 71 37 (I 86 26)) 71 38 (I 86 27)) 71 39 (I 86 28)) 71 40 (I 86 29)) 76 s = I 29 s := by
            simp only [u2_ap, cpk_ap]
            simp [hs, e86, a1]
          have e2 : (u2 (u2 (u2 (u2 (u2 (u2 (cpk I1 76 86 24) 71 8 (I 24 4)) 71 36 (I 86 25)) 71 37 (I 86 26)) 71 38 (I 86 27)) 71 39 (I 86 28)) 71 40 (I 86 29)) 27 s = I 29 s := by
            simp only [u2_ap, cpk_ap]
            simp only [hI1, u2_ap, cpk_ap]
            simp [hs]
          rw [e1, e2]
          exact ⟨rfl, a2, a3⟩
        · simp only [u2_ap, cpk_ap]
          simp [hI1, u2_ap]
        · have e2 : (u2 (u2 (u2 (u2 (u2 (u2 (cpk I1 76 86 24) 71 8 (I 24 4)) 71 36 (I 86 25)) 71 37 (I 86 26)) 71 38 (I 86 27)) 71 39 (I 86 28)) 71 40 (I 86 29)) 25 2 = I 24 4 := by
            simp only [u2_ap, cpk_ap]
            simp [hI1, u2_ap]
          rw [e2]
          omega
      · intro j hj
        have : j = 0 ∨ j = 1 ∨ j = 2 ∨ j = 3 ∨ j = 4 := by omega
        have q40 := q4 j hj
        have e3 : (u2 (u2 (u2 (u2 (u2 (u2 (cpk I1 76 86 24) 71 8 (I 24 4)) 71 36 (I 86 25)) 71 37 (I 86 26)) 71 38 (I 86 27)) 71 39 (I 86 28)) 71 40 (I 86 29)) 28 j = I 30 j := by
          simp only [u2_ap, cpk_ap]
          simp only [hI1, u2_ap, cpk_ap]
          simp [hj]
        rw [e3, ← q40]
        rcases this with rfl | rfl | rfl | rfl | rfl <;> simp [u2_ap]
theorem tX0_add {a : Int32} {Q : Int32 → jS → jL → Prop} (hb : 0 ≤ (I 68 2).toInt ∧ (I 68 2).toInt ≤ 50) (h1 : (I 68 2).toInt = 50 → Q (-3) I L) (h2 : (I 68 2).toInt < 50 → Q (I 68 2) (u2 (u2 I 69 (I 68 2).toInt.toNat a) 68 2 (I 68 2 + 1)) L) : cI G l mX0_add (d + 1) [.ref 68, .int a] I L Q := by
  refine wX0_add_ok ?_
  unfold wX0_add
  refine ife (fun c3 => ?_) (fun c3 => ife (fun c4 => ⟨?_, ri ?_⟩) (fun c4 => ri (h1 ?_)))
  · rw [zlt, z0] at c3; omega
  · rw [zlt, zl_50] at c4; rw [zin]; omega
  · rw [zlt, zl_50] at c4
    have e : I 68 2 + 1 - 1 = I 68 2 := by
      have e8 : (I 68 2 + 1).toInt = (I 68 2).toInt + 1 := by rw [zadd (by rw [z1]; omega) (by rw [z1]; omega), z1]
      rw [zeq, zsub (by rw [e8, z1]; omega) (by rw [e8, z1]; omega), e8, z1]
      omega
    rw [e]
    exact h2 c4
  · rw [zlt, zl_50] at c4; omega
theorem T_body {a : Int32} (h : Inv LR k I L) (hk : ∀ r I' L', Inv LR (k + 1) I' L' → K r r I' L') :
    cI G l mX11_body (d + 9) [.ref 0, .int a] I L (fun r I1 L1 => cI G l mX12_body (d + 9) [.ref 71, .int a] I1 L1 (fun r' I2 L2 => K r r' I2 L2)) := by
  obtain ⟨hP, hC, hI, hT, hR, hD, hG, hA, hS, hM⟩ := id h
  obtain ⟨a1, a2, a3, a4, a5, a6⟩ := hA
  refine two (P := fun r I1 L1 => L1 = L ∧ ((¬ (0 ≤ a.toInt ∧ a.toInt < 8) ∧ r = -1 ∧ I1 = I) ∨ ((0 ≤ a.toInt ∧ a.toInt < 8) ∧ (I 68 2).toInt = 50 ∧ r = -3 ∧ I1 = I) ∨ ((0 ≤ a.toInt ∧ a.toInt < 8) ∧ (I 68 2).toInt < 50 ∧ r = I 68 2 ∧ I1 = u2 (u2 I 69 (I 68 2).toInt.toNat a) 68 2 (I 68 2 + 1)))) (fun Q hq => ?_) (fun r I1 L1 hp Q hq => ?_) hk
  · refine wX11_body_ok ?_
    unfold wX11_body
    refine tX11_isKind (ifz (fun c => ri (hq _ _ _ ⟨rfl, Or.inl ⟨c, rfl, rfl⟩⟩)) (fun c => ?_))
    exact tX0_add a2 (fun c2 => ri (hq _ _ _ ⟨rfl, Or.inr (Or.inl ⟨c, c2, rfl, rfl⟩)⟩)) (fun c2 => ri (hq _ _ _ ⟨rfl, Or.inr (Or.inr ⟨c, c2, rfl, rfl⟩)⟩))
  · obtain ⟨rfl, hp⟩ := hp
    refine wX12_body_ok ?_
    unfold wX12_body
    refine tX12_win (a := 0) (b := 7) (by decide) (by decide) (ifz (fun c => ?_) (fun c => ?_))
    · rcases hp with ⟨-, rfl, rfl⟩ | ⟨q, -⟩ | ⟨q, -⟩
      · exact ri (hq _ _ h.up)
      · omega
      · omega
    · rcases hp with ⟨q, -⟩ | ⟨-, h7, rfl, rfl⟩ | ⟨-, h7, rfl, rfl⟩
      · omega
      · refine ife (fun c5 => ri (hq _ _ h.up)) (fun c5 => ?_)
        rw [a1, zeq, zl_50] at c5
        omega
      · have e6 : (u2 (u2 I 69 (I 68 2).toInt.toNat a) 68 2 (I 68 2 + 1)) 71 43 = I 68 2 := by
          simp only [u2_ap]
          simp [a1]
        have e8 : (I 68 2 + 1).toInt = (I 68 2).toInt + 1 := by rw [zadd (by rw [z1]; omega) (by rw [z1]; omega), z1]
        have e : I 68 2 + 1 - 1 = I 68 2 := by
          rw [zeq, zsub (by rw [e8, z1]; omega) (by rw [e8, z1]; omega), e8, z1]
          omega
        refine ife (fun c5 => ?_) (fun c5 => ⟨by rw [e6, zin]; omega, ri ?_⟩)
        · rw [e6, zeq, zl_50] at c5; omega
        · rw [e6, e]
          refine hq _ _ ?_
          rw [znat]
          have ha : ag [68, 69, 87] [43] I (u2 (u2 (u2 (u2 I 69 (I 68 2).toInt.toNat a) 68 2 (I 68 2 + 1)) 87 (I 68 2).toInt.toNat a) 71 43 (I 68 2 + 1)) := agm (agu (agu (agu ag.rf (by decide) (by decide)) (by decide) (by decide)) (by decide) (by decide)) (by decide)
          have f2 : (u2 (u2 (u2 (u2 I 69 (I 68 2).toInt.toNat a) 68 2 (I 68 2 + 1)) 87 (I 68 2).toInt.toNat a) 71 43 (I 68 2 + 1)) 68 2 = I 68 2 + 1 := by simp [u2_ap]
          have f3 : (u2 (u2 (u2 (u2 I 69 (I 68 2).toInt.toNat a) 68 2 (I 68 2 + 1)) 87 (I 68 2).toInt.toNat a) 71 43 (I 68 2 + 1)) 68 3 = I 68 3 := by simp [u2_ap]
          refine ⟨hP.ag ha rfl, hC.ag ha rfl (by rw [ha.1 1 (by decide) (by decide)]; omega), hI.ag ha rfl (by omega), hT.ag ha rfl, LR_ag hR ha rfl, hD.ag ha rfl, hG.ag ha rfl (by omega), ?_, ?_, hM.ag ha rfl rfl⟩
          · refine ⟨by rw [f2]; simp [u2_ap], by rw [f2, e8]; omega, fun j hj => ?_, by rw [f3, ha.2 46 (by decide)]; exact a4, by rw [f3]; exact a5, fun j hj hj2 => ?_⟩
            · rw [f2, e8] at hj
              by_cases hjj : j = (I 68 2).toInt.toNat
              · subst hjj
                simp only [u2_ap]
                simp [c.1, c.2]
              · have h3 := a3 j (by omega)
                have hjc : ¬ j = (I 68 2).toNatClampNeg := hjj
                simp only [u2_ap]
                simp [hjc, h3]
            · rw [f3] at hj
              rw [ha.1 88 (by decide) (by decide), ha.1 70 (by decide) (by decide)]
              exact a6 j hj hj2
          · intro e he
            have hs := hS e he
            rw [ha.1 58 (by decide) (by decide), ha.1 89 (by decide) (by decide), ha.1 59 (by decide) (by decide), ha.1 60 (by decide) (by decide), ha.1 90 (by decide) (by decide), f2, e8]
            refine ⟨?_, hs.2⟩
            rcases hs.1 with q | q | q
            · exact Or.inl q
            · exact Or.inr (Or.inl ⟨q.1, q.2.1, q.2.2.1, by omega, q.2.2.2.2⟩)
            · exact Or.inr (Or.inr q)
end IM

/-! what holds between the calls: the class's cells and the reference's tell the same -/
/-- the store is the same but for the cells S and, of the reference's own fields, those in T -/
def ag (S T : List Nat) (I I' : jS) : Prop := (∀ r, r ≠ 71 → r ∉ S → I' r = I r) ∧ ∀ i, i ∉ T → I' 71 i = I 71 i
def agL (S : List Nat) (L L' : jL) : Prop := ∀ r, r ∉ S → L' r = L r
theorem ag.rf {S T : List Nat} {I : jS} : ag S T I I := ⟨fun _ _ _ => rfl, fun _ _ => rfl⟩
theorem ag.tr {S T S' T' : List Nat} {I I1 I2 : jS} (h : ag S T I I1) (h' : ag S' T' I1 I2) (hS : ∀ r ∈ S, r ∈ S') (hT : ∀ r ∈ T, r ∈ T') : ag S' T' I I2 :=
  ⟨fun r h1 h2 => (h'.1 r h1 h2).trans (h.1 r h1 (fun q => h2 (hS r q))), fun i hi => (h'.2 i hi).trans (h.2 i (fun q => hi (hT i q)))⟩
theorem ag.mono {S T S' T' : List Nat} {I I1 : jS} (h : ag S T I I1) (hS : ∀ r ∈ S, r ∈ S') (hT : ∀ r ∈ T, r ∈ T') : ag S' T' I I1 := ag.tr h (ag.rf (S := S') (T := T')) hS hT
theorem agu {S T : List Nat} {I I1 : jS} {r i : Nat} {x : Int32} (h : ag S T I I1) (hr : r ∈ S) (h71 : r ≠ 71) : ag S T I (u2 I1 r i x) :=
  ⟨fun z h1 h2 => by rw [u2_ne z (fun e => h2 (e ▸ hr))]; exact h.1 z h1 h2, fun z hz => by rw [u2_ne 71 (Ne.symm h71)]; exact h.2 z hz⟩
theorem agm {S T : List Nat} {I I1 : jS} {i : Nat} {x : Int32} (h : ag S T I I1) (hi : i ∈ T) : ag S T I (u2 I1 71 i x) :=
  ⟨fun z h1 h2 => by rw [u2_ne z h1]; exact h.1 z h1 h2, fun z hz => by
    have hzi : z ≠ i := fun e => hz (e ▸ hi)
    rw [u2i hzi]; exact h.2 z hz⟩
theorem agL.rf {S : List Nat} {L : jL} : agL S L L := fun _ _ => rfl
theorem agL.tr {S S' : List Nat} {L L1 L2 : jL} (h : agL S L L1) (h' : agL S' L1 L2) (hS : ∀ r ∈ S, r ∈ S') : agL S' L L2 := fun r hr => (h' r hr).trans (h r (fun q => hr (hS r q)))
theorem agLu {S : List Nat} {L L1 : jL} {r i : Nat} {x : Int64} (h : agL S L L1) (hr : r ∈ S) : agL S L (u2L L1 r i x) := fun z hz => by rw [u2L_ne z (fun e => hz (e ▸ hr))]; exact h z hz
/-- a number that there is: g goers, number n, of which kind w -/
def hasN (g : Int) (n w : Nat) : Prop := (w < 4 ∧ n < 24) ∨ (4 ≤ w ∧ w < 8 ∧ (n : Int) < g) ∨ (w = 8 ∧ n = 0)
def placeN (n w : Nat) : Nat := if w < 4 then 24 * w + n else if w < 8 then 96 + 7 * (w - 4) + n else 124
def okv (w : Nat) (v : Int32) : Prop := (jsl2.getD w 0).toInt ≤ v.toInt ∧ v.toInt ≤ (jsl3.getD w 0).toInt
/-- squares and goers -/
def InvP (I : jS) : Prop := I 71 6 = I 1 1 ∧ (0 ≤ (I 1 1).toInt ∧ (I 1 1).toInt ≤ 7) ∧ (∀ w n, hasN (I 1 1).toInt n w → I 72 (placeN n w) = I (3 + w) n ∧ okv w (I (3 + w) n)) ∧ ∀ n : Nat, (I 1 1).toInt ≤ (n : Int) → n < 7 → I 8 n = 0
/-- the kept changes -/
def InvC (I : jS) : Prop := I 71 5 = I 12 4 ∧ I 71 4 = I 12 5 ∧ (0 ≤ (I 12 4).toInt ∧ (I 12 4).toInt ≤ (I 12 5).toInt ∧ (I 12 5).toInt ≤ 40) ∧
  ∀ j : Nat, (j : Int) < (I 12 5).toInt → ∃ n w : Nat, (I 13 j).toInt = n ∧ (I 14 j).toInt = w ∧ hasN (I 1 1).toInt n w ∧ (I 73 j).toInt = placeN n w ∧ I 74 j = I 15 j ∧ I 75 j = I 16 j ∧ okv w (I 15 j) ∧ okv w (I 16 j)
/-- the ice and the minute, after k calls -/
def InvI (k : Nat) (I : jS) : Prop := (∀ s, s < 24 → I 76 s = I 27 s ∧ 0 ≤ (I 27 s).toInt ∧ (I 27 s).toInt ≤ 99) ∧ I 71 8 = I 25 2 ∧ 0 ≤ (I 25 2).toInt ∧ (I 25 2).toInt ≤ 9999 + 18 * k
/-- the tape -/
def InvT (I : jS) : Prop := I 71 10 = I 17 5 ∧ (0 ≤ (I 17 5).toInt ∧ (I 17 5).toInt ≤ 120) ∧ ∀ j : Nat, (j : Int) < (I 17 5).toInt → I 77 j = I 18 j ∧ 0 ≤ (I 18 j).toInt ∧ (I 18 j).toInt ≤ 255
/-- what was led -/
def InvD (I : jS) : Prop := ∀ j, j < 5 → I 71 (36 + j) = I 28 j
/-- the image -/
def InvG (k : Nat) (I : jS) : Prop := I 71 41 = I 24 5 ∧ (I 24 5 = 0 ∨ I 24 5 = 1) ∧ (I 24 5 = 1 → (∀ s, s < 24 → I 86 s = I 29 s ∧ 0 ≤ (I 29 s).toInt ∧ (I 29 s).toInt ≤ 99) ∧ I 86 24 = I 24 4 ∧ (0 ≤ (I 24 4).toInt ∧ (I 24 4).toInt ≤ 9999 + 18 * k) ∧ ∀ j, j < 5 → I 86 (25 + j) = I 30 j)
/-- bodies and traces -/
def InvA (I : jS) : Prop := I 71 43 = I 68 2 ∧ (0 ≤ (I 68 2).toInt ∧ (I 68 2).toInt ≤ 50) ∧ (∀ j : Nat, (j : Int) < (I 68 2).toInt → I 87 j = I 69 j ∧ 0 ≤ (I 69 j).toInt ∧ (I 69 j).toInt ≤ 7) ∧ I 71 46 = I 68 3 ∧ 0 ≤ (I 68 3).toInt ∧ ∀ j : Nat, (j : Int) < (I 68 3).toInt → j < 24 → I 88 j = I 70 j
/-- a shelf: what the class holds there (-1 nothing, -2 a body, else a sort), what the reference -/
def InvS (I : jS) (L : jL) : Prop := ∀ e, e < 6 →
  ((I 58 e = -1 ∧ I 89 e = -1 ∧ I 59 e = 0 ∧ I 60 e = -1 ∧ I 90 e = 0) ∨
   (I 58 e = -2 ∧ I 89 e = I 60 e ∧ 0 ≤ (I 60 e).toInt ∧ (I 60 e).toInt < (I 68 2).toInt ∧ I 59 e = 0 ∧ I 90 e = 0) ∨
   (0 ≤ (I 58 e).toInt ∧ (I 58 e).toInt ≤ 4 ∧ (I 89 e).toInt = 50 + (I 58 e).toInt ∧ I 60 e = -1 ∧ I 90 e = I 59 e ∧ 0 ≤ (I 59 e).toInt ∧ (I 59 e).toInt ≤ 60 ∧ (I 58 e = 0 → ∀ j, j < 60 → -128 ≤ (L (62 + e) j).toInt ∧ (L (62 + e) j).toInt ≤ 127))) ∧
  (0 ≤ (I 58 e).toInt → ∀ j, j < 60 → L 91 (60 * e + j) = L (62 + e) j)
/-- the reference's own rest -/
def InvM (I : jS) : Prop := I 71 21 = 0 ∧ I 71 23 = -1
section AG
variable {S T : List Nat} {I I' : jS} {L L' : jL} {k : Nat}
theorem ag.c (ha : ag S T I I') (r : Nat) (h : r ≠ 71 := by decide) (hs : r ∉ S := by decide) : I' r = I r := ha.1 r h hs
theorem ag.m (ha : ag S T I I') (i : Nat) (hs : i ∉ T := by decide) : I' 71 i = I 71 i := ha.2 i hs
def noP (S T : List Nat) : Bool := [1, 3, 4, 5, 6, 7, 8, 9, 10, 11, 72].all (fun r => !S.contains r) && !T.contains 6
theorem no_S {S : List Nat} {r : Nat} {l : List Nat} (h : l.all (fun r => !S.contains r) = true) (hr : r ∈ l) : r ∉ S := by
  have := List.all_eq_true.mp h r hr
  simpa using this
theorem InvP.ag (h : InvP I) (ha : ag S T I I') (hn : noP S T = true) : InvP I' := by
  simp only [noP, Bool.and_eq_true] at hn
  have e1 := ha.1 1 (by decide) (no_S hn.1 (by decide))
  have e72 := ha.1 72 (by decide) (no_S hn.1 (by decide))
  have e8 := ha.1 8 (by decide) (no_S hn.1 (by decide))
  have e6 := ha.2 6 (by simpa using hn.2)
  have er : ∀ w, w < 9 → I' (3 + w) = I (3 + w) := fun w hw => ha.1 _ (by omega) (no_S hn.1 (by
    have : w = 0 ∨ w = 1 ∨ w = 2 ∨ w = 3 ∨ w = 4 ∨ w = 5 ∨ w = 6 ∨ w = 7 ∨ w = 8 := by omega
    rcases this with rfl | rfl | rfl | rfl | rfl | rfl | rfl | rfl | rfl <;> decide))
  obtain ⟨h1, h2, h3, h4⟩ := h
  refine ⟨by rw [e6, e1]; exact h1, by rw [e1]; exact h2, fun w n hw => ?_, fun n hn1 hn2 => by rw [e1] at hn1; rw [e8]; exact h4 n hn1 hn2⟩
  rw [e1] at hw
  have hw9 : w < 9 := by unfold hasN at hw; omega
  rw [e72, er w hw9]
  exact h3 w n hw
def noC (S T : List Nat) : Bool := [12, 13, 14, 15, 16, 73, 74, 75].all (fun r => !S.contains r) && (!T.contains 4 && !T.contains 5)
theorem hasN_mono {g g' : Int} {n w : Nat} (h : hasN g n w) (hg : g ≤ g') : hasN g' n w := by unfold hasN at *; omega
theorem InvC.ag (h : InvC I) (ha : ag S T I I') (hn : noC S T = true) (hg : (I 1 1).toInt ≤ (I' 1 1).toInt) : InvC I' := by
  simp only [noC, Bool.and_eq_true] at hn
  have e : ∀ r, r ∈ [12, 13, 14, 15, 16, 73, 74, 75] → I' r = I r := fun r hr => ha.1 r (fun q => by subst q; revert hr; decide) (no_S hn.1 hr)
  have e12 := e 12 (by decide)
  obtain ⟨h1, h2, h3, h4⟩ := h
  refine ⟨by rw [ha.2 5 (by simpa using hn.2.2), e12]; exact h1, by rw [ha.2 4 (by simpa using hn.2.1), e12]; exact h2, by rw [e12]; exact h3, fun j hj => ?_⟩
  rw [e12] at hj
  obtain ⟨n, w, a1, a2, a3, a4, a5, a6, a7, a8⟩ := h4 j hj
  exact ⟨n, w, by rw [e 13 (by decide)]; exact a1, by rw [e 14 (by decide)]; exact a2, hasN_mono a3 hg, by rw [e 73 (by decide)]; exact a4, by rw [e 74 (by decide), e 15 (by decide)]; exact a5, by rw [e 75 (by decide), e 16 (by decide)]; exact a6, by rw [e 15 (by decide)]; exact a7, by rw [e 16 (by decide)]; exact a8⟩
def noI (S T : List Nat) : Bool := [25, 27, 76].all (fun r => !S.contains r) && !T.contains 8
theorem InvI.ag (h : InvI k I) (ha : ag S T I I') (hn : noI S T = true) {k' : Nat} (hk : k ≤ k') : InvI k' I' := by
  simp only [noI, Bool.and_eq_true] at hn
  have e : ∀ r, r ∈ [25, 27, 76] → I' r = I r := fun r hr => ha.1 r (fun q => by subst q; revert hr; decide) (no_S hn.1 hr)
  obtain ⟨h1, h2, h3, h4⟩ := h
  refine ⟨fun s hs => by rw [e 76 (by decide), e 27 (by decide)]; exact h1 s hs, by rw [ha.2 8 (by simpa using hn.2), e 25 (by decide)]; exact h2, by rw [e 25 (by decide)]; exact h3, by rw [e 25 (by decide)]; omega⟩
def noT (S T : List Nat) : Bool := [17, 18, 77].all (fun r => !S.contains r) && !T.contains 10
theorem InvT.ag (h : InvT I) (ha : ag S T I I') (hn : noT S T = true) : InvT I' := by
  simp only [noT, Bool.and_eq_true] at hn
  have e : ∀ r, r ∈ [17, 18, 77] → I' r = I r := fun r hr => ha.1 r (fun q => by subst q; revert hr; decide) (no_S hn.1 hr)
  unfold InvT
  rw [ha.2 10 (by simpa using hn.2), e 17 (by decide), e 18 (by decide), e 77 (by decide)]
  exact h
def noD (S T : List Nat) : Bool := [28].all (fun r => !S.contains r) && [36, 37, 38, 39, 40].all (fun r => !T.contains r)
theorem InvD.ag (h : InvD I) (ha : ag S T I I') (hn : noD S T = true) : InvD I' := by
  simp only [noD, Bool.and_eq_true] at hn
  intro j hj
  rw [ha.1 28 (by decide) (no_S hn.1 (by decide)), ha.2 (36 + j) (no_S hn.2 (by
    have : j = 0 ∨ j = 1 ∨ j = 2 ∨ j = 3 ∨ j = 4 := by omega
    rcases this with rfl | rfl | rfl | rfl | rfl <;> decide))]
  exact h j hj
def noG (S T : List Nat) : Bool := [24, 29, 30, 86].all (fun r => !S.contains r) && !T.contains 41
theorem InvG.ag (h : InvG k I) (ha : ag S T I I') (hn : noG S T = true) {k' : Nat} (hk : k ≤ k') : InvG k' I' := by
  simp only [noG, Bool.and_eq_true] at hn
  have e : ∀ r, r ∈ [24, 29, 30, 86] → I' r = I r := fun r hr => ha.1 r (fun q => by subst q; revert hr; decide) (no_S hn.1 hr)
  unfold InvG
  rw [ha.2 41 (by simpa using hn.2), e 24 (by decide), e 29 (by decide), e 30 (by decide), e 86 (by decide)]
  obtain ⟨h1, h2, h3⟩ := h
  refine ⟨h1, h2, fun h => ?_⟩
  obtain ⟨a, b, c, d⟩ := h3 h
  exact ⟨a, b, ⟨c.1, by omega⟩, d⟩
def noA (S T : List Nat) : Bool := [68, 69, 70, 87, 88].all (fun r => !S.contains r) && (!T.contains 43 && !T.contains 46)
theorem InvA.ag (h : InvA I) (ha : ag S T I I') (hn : noA S T = true) : InvA I' := by
  simp only [noA, Bool.and_eq_true] at hn
  have e : ∀ r, r ∈ [68, 69, 70, 87, 88] → I' r = I r := fun r hr => ha.1 r (fun q => by subst q; revert hr; decide) (no_S hn.1 hr)
  unfold InvA
  rw [ha.2 43 (by simpa using hn.2.1), ha.2 46 (by simpa using hn.2.2), e 68 (by decide), e 69 (by decide), e 70 (by decide), e 87 (by decide), e 88 (by decide)]
  exact h
def noSh (S : List Nat) : Bool := [58, 59, 60, 68, 89, 90].all (fun r => !S.contains r)
theorem InvS.ag (h : InvS I L) (ha : ag S T I I') (hn : noSh S = true) : InvS I' L := by
  have e : ∀ r, r ∈ [58, 59, 60, 68, 89, 90] → I' r = I r := fun r hr => ha.1 r (fun q => by subst q; revert hr; decide) (no_S hn hr)
  unfold InvS
  rw [e 58 (by decide), e 59 (by decide), e 60 (by decide), e 68 (by decide), e 89 (by decide), e 90 (by decide)]
  exact h
theorem InvM.ag (h : InvM I) (ha : ag S T I I') (h1 : T.contains 21 = false) (h2 : T.contains 23 = false) : InvM I' := by
  unfold InvM
  rw [ha.2 21 (by simpa using h1), ha.2 23 (by simpa using h2)]
  exact h
end AG

/-! a new class and a new reference tell the same -/
theorem all_r {N : Nat} {P : Nat → Bool} (h : (List.range N).all P = true) : ∀ j, j < N → P j = true := fun j hj => List.all_eq_true.mp h j (List.mem_range.mpr hj)
set_option maxRecDepth 100000 in
theorem ini_1 : (List.range 4).all (fun w => (List.range 24).all (fun n => decide (jI0 72 (24 * w + n) = jI0 (3 + w) n) && (decide ((jsl2.getD w 0).toInt ≤ (jI0 (3 + w) n).toInt) && decide ((jI0 (3 + w) n).toInt ≤ (jsl3.getD w 0).toInt)))) = true := by decide +kernel
set_option maxRecDepth 100000 in
theorem ini_2 : (List.range 24).all (fun s => decide (jI0 76 s = jI0 27 s) && (decide (0 ≤ (jI0 27 s).toInt) && decide ((jI0 27 s).toInt ≤ 99))) = true := by decide +kernel
set_option maxRecDepth 100000 in
theorem ini_3 : (List.range 7).all (fun n => decide (jI0 8 n = 0)) = true := by decide +kernel
set_option maxRecDepth 100000 in
theorem ini_4 : (List.range 5).all (fun j => decide (jI0 71 (36 + j) = jI0 28 j)) = true := by decide +kernel
set_option maxRecDepth 100000 in
theorem ini_5 : (List.range 6).all (fun e => decide (jI0 58 e = -1) && (decide (jI0 89 e = -1) && (decide (jI0 59 e = 0) && (decide (jI0 60 e = -1) && decide (jI0 90 e = 0))))) = true := by decide +kernel
set_option maxRecDepth 100000 in
theorem Inv_0 {G : jG} {l : Launch} : Inv (LRl G l) 0 jI0 jL0 := by
  have e11 : jI0 1 1 = 0 := by decide +kernel
  have e124 : jI0 12 4 = 0 := by decide +kernel
  have e125 : jI0 12 5 = 0 := by decide +kernel
  have e252 : jI0 25 2 = 0 := by decide +kernel
  have e175 : jI0 17 5 = 0 := by decide +kernel
  have e245 : jI0 24 5 = 0 := by decide +kernel
  have e682 : jI0 68 2 = 0 := by decide +kernel
  have e683 : jI0 68 3 = 0 := by decide +kernel
  refine ⟨⟨by decide +kernel, by rw [e11]; decide, fun w n hw => ?_, fun n h1 h2 => ?_⟩, ⟨by decide +kernel, by decide +kernel, by rw [e124, e125]; decide, fun j hj => ?_⟩, ⟨fun s hs => ?_, by decide +kernel, by rw [e252]; decide, by rw [e252]; decide⟩, ⟨by decide +kernel, by rw [e175]; decide, fun j hj => ?_⟩, ⟨none, by decide +kernel, by decide +kernel⟩, fun j hj => ?_, ⟨by decide +kernel, Or.inl e245, fun z => ?_⟩, ⟨by decide +kernel, by rw [e682]; decide, fun j hj => ?_, by decide +kernel, by rw [e683]; decide, fun j hj => ?_⟩, fun e he => ?_, ⟨by decide +kernel, by decide +kernel⟩⟩
  · rw [e11] at hw
    rcases hw with ⟨h1, h2⟩ | ⟨h1, h2, h3⟩ | ⟨h1, h2⟩
    · have := all_r (all_r ini_1 w h1) n h2
      rw [Bool.and_eq_true, Bool.and_eq_true, decide_eq_true_iff, decide_eq_true_iff, decide_eq_true_iff] at this
      unfold placeN
      rw [if_pos h1]
      exact this
    · rw [z0] at h3
      omega
    · subst h1
      subst h2
      exact ⟨by decide +kernel, by unfold okv; decide +kernel⟩
  · exact decide_eq_true_iff.mp (all_r ini_3 n h2)
  · rw [e125, z0] at hj
    omega
  · have := all_r ini_2 s hs
    rw [Bool.and_eq_true, Bool.and_eq_true, decide_eq_true_iff, decide_eq_true_iff, decide_eq_true_iff] at this
    exact this
  · rw [e175, z0] at hj
    omega
  · exact decide_eq_true_iff.mp (all_r ini_4 j hj)
  · rw [e245] at z
    exact absurd z (by decide)
  · rw [e682, z0] at hj
    omega
  · rw [e683, z0] at hj
    omega
  · have := all_r ini_5 e he
    simp only [Bool.and_eq_true, decide_eq_true_iff] at this
    refine ⟨Or.inl this, fun z => ?_⟩
    rw [this.1] at z
    exact absurd z (by decide)

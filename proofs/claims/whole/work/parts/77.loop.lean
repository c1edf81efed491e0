/-! every run of calls -/
set_option maxRecDepth 100000 in
set_option maxHeartbeats 4000000 in
theorem law_all {G : jG} {l : Launch} (hst : jSt G) {L : Nat} {xs : Nat → Int32} (hL : L ≤ 3072) (h0 : G.2.2.2.2 0 = (L, xs)) : ∃ n, wL_law_18 G l 2000 (fun v _ _ => v = some (.int 1)) n 0 jI0 jL0 := by
  have hLg : (G.2.2.2.2 0).1 = L := by rw [h0]
  have eL : (Int32.ofNat (G.2.2.2.2 0).1 - 6).toInt = (L : Int) - 6 := by rw [hLg, zsub (by rw [zo (by omega), zl_6]; omega) (by rw [zo (by omega), zl_6]; omega), zo (by omega), zl_6]
  have key : ∀ (m k : Nat) (I : jS) (Lg : jL), L < 6 * (k + m) + 6 → k ≤ 1000 → Inv (LRl G l) k I Lg → wL_law_18 G l 2000 (fun v _ _ => v = some (.int 1)) (m + 1) (Int32.ofNat (6 * k)) I Lg := by
    intro m
    induction m with
    | zero =>
      intro k I Lg hm hk1 hI
      unfold wL_law_18
      rw [if_pos (by rw [zlt, eL, zo (by omega)]; omega)]
    | succ m ih =>
      intro k I Lg hm hk1 hI
      by_cases hend : L < 6 * k + 6
      · unfold wL_law_18
        rw [if_pos (by rw [zlt, eL, zo (by omega)]; omega)]
      have hk5 : k ≤ 512 := by omega
      have hv : ∀ (c : Int32) (n : Nat), c.toInt = n → n < 6 → vp_in (Int32.ofNat (6 * k) + c) (G.2.2.2.2 0).1 := fun c n hc hn => by
        rw [zin, hLg, zadd (by rw [zo (by omega), hc]; omega) (by rw [zo (by omega), hc]; omega), zo (by omega), hc]
        omega
      have v1 := hv 1 1 (by decide) (by decide)
      have v2 := hv 2 2 (by decide) (by decide)
      have v3 := hv 3 3 (by decide) (by decide)
      have v4 := hv 4 4 (by decide) (by decide)
      have v5 := hv 5 5 (by decide) (by decide)
      have e6 : Int32.ofNat (6 * k) + 6 = Int32.ofNat (6 * (k + 1)) := by
        rw [zeq, zadd (by rw [zo (by omega), zl_6]; omega) (by rw [zo (by omega), zl_6]; omega), zo (by omega), zl_6, zo (by omega)]
        omega
      have nxt : ∀ I' L', Inv (LRl G l) (k + 1) I' L' → wL_law_18 G l 2000 (fun v _ _ => v = some (.int 1)) (m + 1) (Int32.ofNat (6 * k) + 6) I' L' := fun I' L' h => by
        rw [e6]
        exact ih (k + 1) I' L' (by omega) (by omega) h
      clear ih
      unfold wL_law_18
      rw [if_neg (by rw [zlt, eL, zo (by omega)]; omega)]
      refine ⟨by rw [zin, hLg, zo (by omega)]; omega, ?_⟩
      refine ife (fun _ => ?_) (fun _ => ?_)
      · exact ⟨v1, v2, T_goer (d := 1991) hst hI (fun r I' L' h => by rw [if_pos (rfl)]; exact nxt I' L' h)⟩
      refine ife (fun _ => ?_) (fun _ => ?_)
      · exact ⟨v1, v2, v3, T_goers (d := 1991) hst hI (fun r I' L' h => by rw [if_pos (rfl)]; exact nxt I' L' h)⟩
      refine ife (fun _ => ?_) (fun _ => ?_)
      · exact ⟨v1, v2, v3, T_mend (d := 1991) hst hI (fun r I' L' h => by rw [if_pos (rfl)]; exact nxt I' L' h)⟩
      refine ife (fun _ => ?_) (fun _ => ?_)
      · exact ⟨v1, v2, T_of (d := 1991) hI hk5 (fun r I' L' h => by rw [if_pos (rfl)]; exact nxt I' L' h)⟩
      refine ife (fun _ => ?_) (fun _ => ?_)
      · exact ⟨v1, T_feed (d := 1991) hI (fun r I' L' h => by rw [if_pos (rfl)]; exact nxt I' L' h)⟩
      refine ife (fun _ => ?_) (fun _ => ?_)
      · exact T_law (d := 1871) hI (fun r I' L' h => by rw [if_pos (rfl)]; exact nxt I' L' h)
      refine ife (fun _ => ?_) (fun _ => ?_)
      · exact ⟨v1, v2, v3, T_over (d := 1891) hI hk5 (fun r I' L' h => by rw [if_pos (rfl)]; exact nxt I' L' h)⟩
      refine ife (fun _ => ?_) (fun _ => ?_)
      · exact ⟨v1, v2, v3, T_bears (d := 1891) hI hk5 (fun r I' L' h => by rw [if_pos (rfl)]; exact nxt I' L' h)⟩
      refine ife (fun _ => ?_) (fun _ => ?_)
      · exact ⟨v1, v2, T_all (d := 1871) hI hk5 (fun r I' L' h => by rw [if_pos (rfl)]; exact nxt I' L' h)⟩
      refine ife (fun _ => ?_) (fun _ => ?_)
      · exact ⟨v1, v2, T_rule (d := 1891) hI hk5 (fun r I' L' h => by rw [if_pos (rfl)]; exact nxt I' L' h)⟩
      refine ife (fun _ => ?_) (fun _ => ?_)
      · exact ⟨v1, v2, v3, T_waits (d := 1891) hI hk5 (fun r I' L' h => by rw [if_pos (rfl)]; exact nxt I' L' h)⟩
      refine ife (fun _ => ?_) (fun _ => ?_)
      · exact ⟨v1, v2, T_soonest (d := 1871) hI hk5 (fun r I' L' h => by rw [if_pos (rfl)]; exact nxt I' L' h)⟩
      refine ife (fun _ => ?_) (fun _ => ?_)
      · exact ⟨v1, v2, T_strength (d := 1891) hI hk5 (fun r I' L' h => by rw [if_pos (rfl)]; exact nxt I' L' h)⟩
      refine ife (fun _ => ?_) (fun _ => ?_)
      · exact ⟨v1, v2, v3, T_load (d := 1891) hI hk5 (fun r I' L' h => by rw [if_pos (rfl)]; exact nxt I' L' h)⟩
      refine ife (fun _ => ?_) (fun _ => ?_)
      · exact ⟨v1, T_several (d := 1871) hI hk5 (fun r I' L' h => by rw [if_pos (rfl)]; exact nxt I' L' h)⟩
      refine ife (fun _ => ?_) (fun _ => ?_)
      · exact ⟨v1, v2, v3, T_unsure (d := 1891) hI hk5 (fun r I' L' h => by rw [if_pos (lcmp_eq.mpr rfl)]; exact nxt I' L' h)⟩
      refine ife (fun _ => ?_) (fun _ => ?_)
      · exact ⟨v1, v2, v3, T_bore (d := 1891) hI hk5 (fun r I' L' h => by rw [if_pos (lcmp_eq.mpr rfl)]; exact nxt I' L' h)⟩
      refine ife (fun _ => ?_) (fun _ => ?_)
      · exact ⟨v1, T_safe (d := 1891) hI hk5 (fun r I' L' h => by rw [if_pos (rfl)]; exact nxt I' L' h)⟩
      refine ife (fun _ => ?_) (fun _ => ?_)
      · exact ⟨v1, v2, v3, T_who (d := 1891) hI hk5 (fun r I' L' h => by rw [if_pos (rfl)]; exact nxt I' L' h)⟩
      refine ife (fun _ => ?_) (fun _ => ?_)
      · exact ⟨v1, T_judge (d := 1891) hI hk5 (fun r I' L' h => by rw [if_pos (rfl)]; exact nxt I' L' h)⟩
      refine ife (fun _ => ?_) (fun _ => ?_)
      · exact ⟨v1, v2, v3, T_drawn (d := 1891) hI hk5 (fun r I' L' h => by rw [if_pos (rfl)]; exact nxt I' L' h)⟩
      refine ife (fun _ => ?_) (fun _ => ?_)
      · exact ⟨v1, v2, T_go (d := 1891) hI hk5 (fun r I' L' h => by rw [if_pos (rfl)]; exact nxt I' L' h)⟩
      refine ife (fun _ => ?_) (fun _ => ?_)
      · exact ⟨v1, T_stay (d := 1991) hI hk5 (fun r I' L' h => by rw [if_pos (rfl)]; exact nxt I' L' h)⟩
      refine ife (fun _ => ?_) (fun _ => ?_)
      · exact ⟨v1, T_led (d := 1991) hI (fun r I' L' h => by rw [if_pos (rfl)]; exact nxt I' L' h)⟩
      refine ife (fun _ => ?_) (fun _ => ?_)
      · exact T_image (d := 1991) hI (fun r I' L' h => by rw [if_pos (rfl)]; exact nxt I' L' h)
      refine ife (fun _ => ?_) (fun _ => ?_)
      · exact T_back (d := 1991) hI (fun r I' L' h => by rw [if_pos (rfl)]; exact nxt I' L' h)
      refine ife (fun _ => ?_) (fun _ => ?_)
      · exact T_undo (d := 1991) hI (fun r I' L' h => by rw [if_pos (rfl)]; exact nxt I' L' h)
      refine ife (fun _ => ?_) (fun _ => ?_)
      · exact T_redo (d := 1991) hI (fun r I' L' h => by rw [if_pos (rfl)]; exact nxt I' L' h)
      refine ife (fun _ => ?_) (fun _ => ?_)
      · exact ⟨v1, T_body (d := 1991) hI (fun r I' L' h => by rw [if_pos (rfl)]; exact nxt I' L' h)⟩
      refine ife (fun _ => ?_) (fun _ => ?_)
      · exact ⟨v1, v2, v3, T_act (d := 1981) hst hI (fun r I' L' h => by rw [if_pos (rfl)]; exact nxt I' L' h)⟩
      refine ife (fun _ => ?_) (fun _ => ?_)
      · exact ⟨v1, T_trace (d := 1991) hI (fun r I' L' h => by rw [if_pos (rfl)]; exact nxt I' L' h)⟩
      refine ife (fun _ => ?_) (fun _ => ?_)
      · exact ⟨v1, v2, T_keep (d := 1991) hI (fun r I' L' h => by rw [if_pos (rfl)]; exact nxt I' L' h)⟩
      refine ife (fun _ => ?_) (fun _ => ?_)
      · exact ⟨v1, v2, v3, T_row (d := 1991) hI (fun r I' L' h => by rw [if_pos (rfl)]; exact nxt I' L' h)⟩
      refine ife (fun _ => ?_) (fun _ => ?_)
      · exact ⟨v1, v2, v3, v4, T_put (d := 1991) hI (fun r I' L' h => by rw [if_pos (rfl)]; exact nxt I' L' h)⟩
      refine ife (fun _ => ?_) (fun _ => ?_)
      · exact ⟨v1, v2, T_element (d := 1991) hI (fun r I' L' h => by rw [if_pos (lcmp_eq.mpr rfl)]; exact nxt I' L' h)⟩
      refine ife (fun _ => ?_) (fun _ => ?_)
      · exact ⟨v1, v2, v3, v4, v5, T_shift (d := 1991) hI (fun r I' L' h => by rw [if_pos (rfl)]; exact nxt I' L' h)⟩
      refine ife (fun _ => ?_) (fun _ => ?_)
      · exact ⟨v1, v2, T_taken (d := 1991) hst hI (fun r I' L' h => by rw [if_pos (rfl)]; exact nxt I' L' h)⟩
      refine ife (fun _ => ?_) (fun _ => ?_)
      · exact ⟨v1, T_count (d := 1991) hI (fun r I' L' h => by rw [if_pos (rfl)]; exact nxt I' L' h)⟩
      exact nxt I Lg hI.up
  exact ⟨_, key 512 0 jI0 jL0 (by omega) (by omega) Inv_0⟩

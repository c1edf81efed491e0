/-! load -/
theorem zmod10 {x : Int32} (h : 0 ≤ x.toInt) : (x / 10).toInt = x.toInt / 10 ∧ (x - x / 10 * 10).toInt = x.toInt % 10 := by
  have e1 : (x / 10).toInt = x.toInt / 10 := by rw [zdiv h (by decide), zl_10]
  have hr := zrange x
  have e2 : (x / 10 * 10).toInt = x.toInt / 10 * 10 := by rw [zmul (by rw [e1, zl_10]; omega) (by rw [e1, zl_10]; omega), e1, zl_10]
  refine ⟨e1, ?_⟩
  rw [zsub (by rw [e2]; omega) (by rw [e2]; omega), e2]
  omega
/-- m parts more, i are through: how many are over, and whether all -/
def zld (F : Option lF) (p : Nat → Nat → Int) (way n : Nat) (part : Int) : Nat → Nat → (Nat → Int) → Int → Int → Int × Bool
  | 0, _, _, _, o => (o, true)
  | m + 1, i, wk, mn, o =>
    if i ≠ 0 ∧ (zcross F p (p 0) way n 0 true wk mn).1 ≠ -1 then (o, false)
    else if (zcross F p (p 0) way n part false (if i = 0 then wk else (zcross F p (p 0) way n 0 true wk mn).2.1) (if i = 0 then mn else (zcross F p (p 0) way n 0 true wk mn).2.2)).1 = -1
    then zld F p way n part m (i + 1) (zcross F p (p 0) way n part false (if i = 0 then wk else (zcross F p (p 0) way n 0 true wk mn).2.1) (if i = 0 then mn else (zcross F p (p 0) way n 0 true wk mn).2.2)).2.1 (zcross F p (p 0) way n part false (if i = 0 then wk else (zcross F p (p 0) way n 0 true wk mn).2.1) (if i = 0 then mn else (zcross F p (p 0) way n 0 true wk mn).2.2)).2.2 (o + 1)
    else (o, false)
theorem zld_all {F : Option lF} {p : Nat → Nat → Int} {way n : Nat} {part : Int} : ∀ m i wk mn o, (0 ≤ o → 0 ≤ (zld F p way n part m i wk mn o).1) ∧ (zld F p way n part m i wk mn o).1 ≤ o + m ∧ ((zld F p way n part m i wk mn o).2 = true ↔ (zld F p way n part m i wk mn o).1 = o + m) := by
  intro m
  induction m with
  | zero => intro i wk mn o; unfold zld; exact ⟨fun h => h, by simp, by simp⟩
  | succ m ih =>
    intro i wk mn o
    unfold zld
    by_cases h1 : i ≠ 0 ∧ (zcross F p (p 0) way n 0 true wk mn).1 ≠ -1
    · rw [if_pos h1]
      exact ⟨fun h => h, by simp only; omega, ⟨fun q => Bool.noConfusion q, fun q => by simp only at q; omega⟩⟩
    · rw [if_neg h1]
      generalize (if i = 0 then wk else (zcross F p (p 0) way n 0 true wk mn).2.1) = wk1
      generalize (if i = 0 then mn else (zcross F p (p 0) way n 0 true wk mn).2.2) = mn1
      by_cases h2 : (zcross F p (p 0) way n part false wk1 mn1).1 = -1
      · rw [if_pos h2]
        have := ih (i + 1) (zcross F p (p 0) way n part false wk1 mn1).2.1 (zcross F p (p 0) way n part false wk1 mn1).2.2 (o + 1)
        refine ⟨fun h => this.1 (by omega), by omega, ?_⟩
        rw [this.2.2]
        omega
      · rw [if_neg h2]
        exact ⟨fun h => h, by simp only; omega, ⟨fun q => Bool.noConfusion q, fun q => by simp only at q; omega⟩⟩
section LD
variable {G : jG} {l : Launch} {d k : Nat} {F : Option lF} {g : Int} {p : Nat → Nat → Int} {I : jS} {L : jL} {st wk : Nat → Int} {mn : Int} {Q : Int32 → jS → jL → Prop} {Qv : jS → jL → Prop} {K : Int32 → Int32 → jS → jL → Prop}
/-- the class carries -/
theorem tX10_carry {x y z w : Int32} {way n pts : Nat} {part : Int} (hF : Fr G l F g p I) (hI : Ic 32 I (p 0) wk mn) (hz : zok wk mn) (hmn : mn ≤ 100000) (hx : x.toInt = n) (hn : (n : Int) < g) (hy : y.toInt = way) (hw : way < 3) (hzp : z.toInt = part) (hp : 0 ≤ part ∧ part ≤ 200) (hpt : w.toInt = pts) (hpts : pts ≤ 9)
    (h : ∀ (r : Int32) I', ag scC [] I I' → r.toInt = (zld F p way n part pts 0 wk mn 0).1 → Q r I' L) : cI G l mX10_carry (d + 6) [.ref 31, .int x, .int y, .int z, .int w] I L Q := by
  have i32 : isIce 32 := by unfold isIce; decide
  have hst := zst0 hF
  refine wX10_carry_ok ?_
  unfold wX10_carry
  generalize hR : zld F p way n part pts 0 wk mn 0 = R at h
  have stop : ∀ m (c t : Int32) J, c.toInt = R.1 → ag scC [] I J → wX10_carry_9 G l (d + 5) (fun v I' L' => ∃ r, v = some (.int r) ∧ Q r I' L') (m + 1) x y z w c 0 t J L := fun m c t J hc ha => by
    unfold wX10_carry_9
    refine ife (fun _ => ri (h _ _ ha hc)) (fun _ => ?_)
    rw [if_pos rfl]
    exact ri (h _ _ ha hc)
  have key : ∀ m i J wk' mn' (o : Int) (c : Int32), i + m = pts → c.toInt = o → 0 ≤ o → o ≤ i → ag scC [] I J → Ic 32 J (p 0) wk' mn' → zok wk' mn' → mn' ≤ 100000 + 36 * i → zld F p way n part m i wk' mn' o = R → wX10_carry_9 G l (d + 5) (fun v I' L' => ∃ r, v = some (.int r) ∧ Q r I' L') (m + 1) x y z w c 1 (Int32.ofNat i) J L := by
    intro m
    induction m with
    | zero =>
      intro i J wk' mn' o c hi hc ho1 ho2 ha hJ hz' hm' hr
      unfold wX10_carry_9
      rw [if_pos (by rw [zle, hpt, zo (by omega)]; omega)]
      unfold zld at hr
      exact ri (h _ _ ha (by rw [← hr]; exact hc))
    | succ m ih =>
      intro i J wk' mn' o c hi hc ho1 ho2 ha hJ hz' hm' hr
      have hFJ := hF.ag ha rfl
      unfold wX10_carry_9
      rw [if_neg (by rw [zle, hpt, zo (by omega)]; omega), if_neg (by decide)]
      unfold zld at hr
      -- behind the way back
      have go : ∀ J2 wk2 mn2, ag scC [] I J2 → Ic 32 J2 (p 0) wk2 mn2 → zok wk2 mn2 → mn2 ≤ 100000 + 36 * i + 18 → (if (zcross F p (p 0) way n part false wk2 mn2).1 = -1 then zld F p way n part m (i + 1) (zcross F p (p 0) way n part false wk2 mn2).2.1 (zcross F p (p 0) way n part false wk2 mn2).2.2 (o + 1) else (o, false)) = R → wX10_carry_52 G l (d + 5) (fun z0 z1 z2 z3 z4 z5 z6 I L => wX10_carry_9 G l (d + 5) (fun v I' L' => ∃ r, v = some (.int r) ∧ Q r I' L') (m + 1) z0 z1 z2 z3 z4 z5 z6 I L) (fun v I' L' => ∃ r, v = some (.int r) ∧ Q r I' L') x y z w c 1 (Int32.ofNat i) J2 L := fun J2 wk2 mn2 ha2 hJ2 hz2 hm2 hr2 => by
        have hFJ2 := hF.ag ha2 rfl
        have hzo := zcross_ok hFJ2 (st := p 0) (more := part) (back := false) hw hn hp hz2
        unfold wX10_carry_52
        rw [if_neg (by decide)]
        refine tX3_cross (back := false) i32 hFJ2 hJ2 hz2 hst hy hw hx hn hzp hp rfl (fun r1 J3 h1 ha3 hJ3 => ?_)
        have ha4 : ag scC [] I J3 := ha2.cl ha3
        refine ife (fun q => ?_) (fun q => ?_)
        · rw [zeq, h1] at q
          have q : (zcross F p (p 0) way n part false wk2 mn2).1 = -1 := q
          rw [if_pos q] at hr2
          unfold wX10_carry_81 wX10_carry_83
          rw [if_neg (by decide), zsucc]
          exact ih (i + 1) J3 _ _ (o + 1) (c + 1) (by omega) (by rw [zadd (by rw [z1, hc]; omega) (by rw [z1, hc]; omega), z1, hc]) (by omega) (by omega) ha4 hJ3 ⟨hzo.1, by have := hz2.2; omega, by omega⟩ (by omega) hr2
        · rw [zeq, h1] at q
          have q : ¬ (zcross F p (p 0) way n part false wk2 mn2).1 = -1 := q
          rw [if_neg q] at hr2
          unfold wX10_carry_81 wX10_carry_83
          rw [if_pos rfl]
          exact stop m _ _ _ (by rw [← hr2]; exact hc) ha4
      by_cases hi0 : i = 0
      · subst hi0
        rw [if_neg (fun q => q.1 rfl), if_pos rfl, if_pos rfl] at hr
        rw [if_pos (by rw [zle, zo (by omega), z0]; omega)]
        exact go J wk' mn' ha hJ hz' (by omega) hr
      · rw [if_neg (by rw [zle, zo (by omega), z0]; omega)]
        have hzo := zcross_ok hFJ (st := p 0) (more := 0) (back := true) hw hn (by decide) hz'
        refine tX3_cross (back := true) i32 hFJ hJ hz' hst hy hw hx hn (more := 0) (by decide) (by decide) rfl (fun r1 J3 h1 ha3 hJ3 => ?_)
        have ha4 : ag scC [] I J3 := ha.cl ha3
        refine ife (fun q => ?_) (fun q => ?_)
        · rw [zeq, h1] at q
          have q : (zcross F p (p 0) way n 0 true wk' mn').1 = -1 := q
          rw [if_neg (fun z => z.2 q), if_neg hi0, if_neg hi0] at hr
          unfold wX10_carry_50
          exact go J3 _ _ ha4 hJ3 ⟨hzo.1, by have := hz'.2; omega, by omega⟩ (by omega) hr
        · rw [zeq, h1] at q
          have q : ¬ (zcross F p (p 0) way n 0 true wk' mn').1 = -1 := q
          rw [if_pos ⟨hi0, q⟩] at hr
          unfold wX10_carry_50 wX10_carry_52 wX10_carry_83
          rw [if_pos rfl, if_pos rfl]
          exact stop m _ _ _ (by rw [← hr]; exact hc) ha4
  exact ⟨_, key pts 0 I wk mn 0 0 (by omega) rfl (by omega) (by omega) ag.rf hI hz (by omega) hR⟩
/-- the reference carries -/
theorem tX12_loadOf {x y z w : Int32} {way n pts : Nat} {part l0 : Int} (hF : Fr G l F g p I) (hIm : Im (u2 (cpk I 80 76 24) 71 20 (I 71 8)) p (p 0) wk mn) (hz : zok wk mn) (hmn : mn ≤ 100000) (hx : x.toInt = n) (hn : (n : Int) < g) (hy : y.toInt = way) (hw : way < 3) (hzl : z.toInt = l0) (hl : 1 ≤ l0 ∧ l0 ≤ 200) (hpt : w.toInt = pts) (hpts : 1 ≤ pts ∧ pts ≤ 9) (hpart : part = (l0 + pts - 1) / pts) (hp : 0 ≤ part ∧ part ≤ 200)
    (h : ∀ (r : Int32) I', ag scM tcM I I' → r.toInt = (zld F p way n part pts 0 wk mn 0).1 → I' 71 32 = (if (zld F p way n part pts 0 wk mn 0).2 then 1 else 0) → Q r I' L) : cI G l mX12_loadOf (d + 103) [.ref 71, .int x, .int y, .int z, .int w] I L Q := by
  have hst := zst0 hF
  refine wX12_loadOf_ok ?_
  unfold wX12_loadOf
  refine ⟨by rw [zeq, z0, hpt]; omega, tX12_begins1 ?_⟩
  have hb1 := ag_begin (J := I)
  generalize u2 (cpk I 80 76 24) 71 20 (I 71 8) = I2 at *
  have e1 : (z + w).toInt = l0 + pts := by rw [zadd (by rw [hzl, hpt]; omega) (by rw [hzl, hpt]; omega), hzl, hpt]
  have e2 : (z + w - 1).toInt = l0 + pts - 1 := by rw [zsub (by rw [e1, z1]; omega) (by rw [e1, z1]; omega), e1, z1]
  have e3 : ((z + w - 1) / w).toInt = part := by rw [zdiv (by rw [e2]; omega) (by rw [hpt]; omega), e2, hpt, hpart]
  generalize (z + w - 1) / w = pz at e3
  generalize hR : zld F p way n part pts 0 wk mn 0 = R at h
  have ha0 : ag scM tcM I I2 := hb1.up rfl rfl
  have im32 : ∀ J (v : Int32) wk' mn', Im J p (p 0) wk' mn' → Im (u2 J 71 32 v) p (p 0) wk' mn' := fun J v wk' mn' hJ => hJ.ag (S := []) (T := [32]) (agm ag.rf (by decide)) (by decide) (by decide)
  have ag32 : ∀ J (v : Int32), ag scM tcM I J → ag scM tcM I (u2 J 71 32 v) := fun J v ha => ha.ml (S2 := []) (T2 := [32]) (agm ag.rf (by decide))
  have stop : ∀ m (c t : Int32) J, c.toInt = R.1 → R.2 = false → J 71 32 = 0 → ag scM tcM I J → wX12_loadOf_26 G l (d + 102) (fun v I' L' => ∃ r, v = some (.int r) ∧ Q r I' L') (m + 1) x y w pz c t J L := fun m c t J hc hf h32 ha => by
    have := h c J ha hc (by rw [hf, h32]; rfl)
    unfold wX12_loadOf_26
    refine ife (fun _ => ri this) (fun _ => ?_)
    rw [if_pos h32]
    exact ri this
  have key : ∀ m i J wk' mn' (o : Int) (c : Int32), i + m = pts → c.toInt = o → 0 ≤ o → o ≤ i → J 71 32 = 1 → ag scM tcM I J → Im J p (p 0) wk' mn' → zok wk' mn' → mn' ≤ 100000 + 36 * i → zld F p way n part m i wk' mn' o = R → wX12_loadOf_26 G l (d + 102) (fun v I' L' => ∃ r, v = some (.int r) ∧ Q r I' L') (m + 1) x y w pz c (Int32.ofNat i) J L := by
    intro m
    induction m with
    | zero =>
      intro i J wk' mn' o c hi hc ho1 ho2 h32 ha hJ hz' hm' hr
      unfold wX12_loadOf_26
      rw [if_pos (by rw [zle, hpt, zo (by omega)]; omega)]
      unfold zld at hr
      exact ri (h _ _ ha (by rw [← hr]; exact hc) (by rw [← hr, h32]; rfl))
    | succ m ih =>
      intro i J wk' mn' o c hi hc ho1 ho2 h32 ha hJ hz' hm' hr
      have hFJ := hF.ag ha rfl
      unfold wX12_loadOf_26
      rw [if_neg (by rw [zle, hpt, zo (by omega)]; omega), if_neg (by rw [h32]; decide)]
      unfold zld at hr
      have go : ∀ J2 wk2 mn2, ag scM tcM I J2 → Im J2 p (p 0) wk2 mn2 → zok wk2 mn2 → mn2 ≤ 100000 + 36 * i + 18 → (if (zcross F p (p 0) way n part false wk2 mn2).1 = -1 then zld F p way n part m (i + 1) (zcross F p (p 0) way n part false wk2 mn2).2.1 (zcross F p (p 0) way n part false wk2 mn2).2.2 (o + 1) else (o, false)) = R → wX12_loadOf_57 G l (d + 102) (fun z0 z1 z2 z3 z4 z5 I L => wX12_loadOf_26 G l (d + 102) (fun v I' L' => ∃ r, v = some (.int r) ∧ Q r I' L') (m + 1) z0 z1 z2 z3 z4 z5 I L) (fun v I' L' => ∃ r, v = some (.int r) ∧ Q r I' L') x y w pz c (Int32.ofNat i) J2 L := fun J2 wk2 mn2 ha2 hJ2 hz2 hm2 hr2 => by
        have hzo := zcross_ok hF (st := p 0) (more := part) (back := false) hw hn hp hz2
        unfold wX12_loadOf_57 wX12_loadOf_62
        refine ⟨Or.inr rfl, ?_⟩
        rw [if_neg (by decide)]
        refine tX12_crossesWith (back := false) (hF.ag (ag32 J2 1 ha2) rfl) (im32 J2 1 _ _ hJ2) hz2 hst hx hn hy hw e3 hp rfl (fun J3 ha3 hJ3 _ => ⟨b01_or, ?_⟩)
        have ha4 : ag scM tcM I J3 := (ag32 J2 1 ha2).ml ha3
        refine ifz (fun q => ?_) (fun q => ?_)
        · rw [if_neg q] at hr2
          rw [b01_neg q]
          exact stop m _ _ _ (by rw [← hr2, Int32.add_zero]; exact hc) (by rw [← hr2]) u2e (ag32 J3 0 ha4)
        · rw [if_pos q] at hr2
          rw [b01_pos q, zsucc]
          exact ih (i + 1) _ _ _ (o + 1) (c + 1) (by omega) (by rw [zadd (by rw [z1, hc]; omega) (by rw [z1, hc]; omega), z1, hc]) (by omega) (by omega) u2e (ag32 J3 1 ha4) (im32 J3 1 _ _ hJ3) ⟨hzo.1, by have := hz2.2; omega, by omega⟩ (by omega) hr2
      by_cases hi0 : i = 0
      · subst hi0
        rw [if_neg (fun q => q.1 rfl), if_pos rfl, if_pos rfl] at hr
        rw [if_pos (show Int32.ofNat 0 = 0 from rfl)]
        exact go J wk' mn' ha hJ hz' (by omega) hr
      · rw [if_neg (by rw [zeq, zo (by omega), z0]; omega)]
        have hzo := zcross_ok hFJ (st := p 0) (more := 0) (back := true) hw hn (by decide) hz'
        refine tX12_crossesWith (back := true) hFJ hJ hz' hst hx hn hy hw (more := 0) (by decide) (by decide) rfl (fun J3 ha3 hJ3 _ => ?_)
        have ha4 : ag scM tcM I J3 := ha.ml ha3
        refine ifz (fun q => ?_) (fun q => ?_)
        · rw [if_pos ⟨hi0, q⟩] at hr
          unfold wX12_loadOf_62
          refine ⟨Or.inl rfl, ?_⟩
          rw [if_pos rfl]
          exact stop m _ _ _ (by rw [← hr]; exact hc) (by rw [← hr]) u2e (ag32 J3 0 ha4)
        · rw [if_neg (fun z => z.2 q), if_neg hi0, if_neg hi0] at hr
          exact go J3 _ _ ha4 hJ3 ⟨hzo.1, by have := hz'.2; omega, by omega⟩ (by omega) hr
  exact ⟨_, key pts 0 _ wk mn 0 0 (by omega) rfl (by omega) (by omega) u2e (ag32 I2 1 ha0) (im32 I2 1 _ _ hIm) hz (by omega) hR⟩
theorem part_b {l0 : Int} {pts : Nat} (hl : 1 ≤ l0 ∧ l0 ≤ 200) (hp : 1 ≤ pts ∧ pts ≤ 9) : 0 ≤ (l0 + pts - 1) / pts ∧ (l0 + pts - 1) / (pts : Int) ≤ 200 := by
  have : pts = 1 ∨ pts = 2 ∨ pts = 3 ∨ pts = 4 ∨ pts = 5 ∨ pts = 6 ∨ pts = 7 ∨ pts = 8 ∨ pts = 9 := by omega
  rcases this with rfl | rfl | rfl | rfl | rfl | rfl | rfl | rfl | rfl <;> omega
/-- so many parts -/
def ldR (F : Option lF) (p : Nat → Nat → Int) (I : jS) (way n : Nat) (l0 : Int) (pts : Nat) : Int × Bool := zld F p way n ((l0 + pts - 1) / pts) pts 0 (dwk I) (I 25 2).toInt 0
/-- the fewest parts -/
def ldF (F : Option lF) (p : Nat → Nat → Int) (I : jS) (way n : Nat) (l0 : Int) : Nat → Nat → Int
  | 0, _ => -2
  | m + 1, i => if (ldR F p I way n l0 i).2 = true then i else ldF F p I way n l0 m (i + 1)
theorem tX11_carried {x y z w : Int32} {way n pts : Nat} {l0 : Int} {J : jS} (hFI : Fr G l F g p I) (ha : ag scC [] I J) (hz : zok (dwk I) (I 25 2).toInt) (hmn : (I 25 2).toInt ≤ 100000) (hx : x.toInt = n) (hn : (n : Int) < g) (hy : y.toInt = way) (hw : way < 3) (hzl : z.toInt = l0) (hl : 1 ≤ l0 ∧ l0 ≤ 200) (hpt : w.toInt = pts) (hpts : 1 ≤ pts ∧ pts ≤ 9)
    (h : ∀ (r : Int32) I', ag scC [] I I' → r.toInt = (ldR F p I way n l0 pts).1 → Q r I' L) : cI G l mX11_carried (d + 7) [.ref 0, .int x, .int y, .int z, .int w] J L Q := by
  have i25 : isIce 25 := by unfold isIce; decide
  have i32 : isIce 32 := by unfold isIce; decide
  refine wX11_carried_ok ?_
  unfold wX11_carried
  rw [if_pos (by rw [zle, z1, hpt]; omega)]
  have e25 : Ic 25 J (fun s => (I 26 s).toInt) (dwk I) (I 25 2).toInt := Ic_deed.ag i25 ha (by decide) (by decide) (by decide)
  refine tX3_follow i32 i25 (by decide) (hFI.ag ha rfl) e25 (fun I2 ha2 hI2 => ⟨by rw [zeq, z0, hpt]; omega, ?_⟩)
  have ha3 : ag scC [] I I2 := ha.cl ha2
  have e1 : (z + w).toInt = l0 + pts := by rw [zadd (by rw [hzl, hpt]; omega) (by rw [hzl, hpt]; omega), hzl, hpt]
  have e2 : (z + w - 1).toInt = l0 + pts - 1 := by rw [zsub (by rw [e1, z1]; omega) (by rw [e1, z1]; omega), e1, z1]
  have e3 : ((z + w - 1) / w).toInt = (l0 + pts - 1) / pts := by rw [zdiv (by rw [e2]; omega) (by rw [hpt]; omega), e2, hpt]
  exact tX10_carry (hFI.ag ha3 rfl) hI2 hz hmn hx hn hy hw e3 (part_b hl hpts) hpt (by omega) (fun r I3 ha4 hr => ri (h r I3 (ha3.cl ha4) hr))
theorem T_load {a b c : Int32} (h : Inv (LRl G l) k I L) (hk5 : k ≤ 512) (hk : ∀ r I' L', Inv (LRl G l) (k + 1) I' L' → K r r I' L') :
    cI G l mX11_load (d + 109) [.ref 0, .int a, .int b, .int c] I L (fun r I1 L1 => cI G l mX12_load (d + 109) [.ref 71, .int a, .int b, .int c] I1 L1 (fun r' I2 L2 => K r r' I2 L2)) := by
  obtain ⟨F, p, hF, hp⟩ := h.fr
  obtain ⟨hP, hC, hI, hT, hR, hD, hG, hA, hS, hM⟩ := id h
  have hz := dz h hk5
  have hmn := dmn h hk5
  have hg := hF.1
  refine scr2 h (if a.toInt < 0 ∨ ¬ (0 ≤ a.toInt / 10 ∧ a.toInt / 10 < (I 1 1).toInt) ∨ ¬ (0 ≤ a.toInt % 10 ∧ a.toInt % 10 < 3) ∨ ¬ (1 ≤ b.toInt ∧ b.toInt ≤ 200) ∨ ¬ (0 ≤ c.toInt ∧ c.toInt ≤ 9) then -1 else if 0 < c.toInt then (ldR F p I (a.toInt % 10).toNat (a.toInt / 10).toNat b.toInt c.toInt.toNat).1 else ldF F p I (a.toInt % 10).toNat (a.toInt / 10).toNat b.toInt 9 1) (fun Q hq => ?_) (fun I1 ha Q hq => ?_) hk
  · refine wX11_load_ok ?_
    unfold wX11_load
    refine ife (fun c0 => ri (hq _ _ (by rw [zlt, z0] at c0; rw [if_pos (Or.inl c0)]; rfl) ag.rf)) (fun c0 => ?_)
    rw [zlt, z0] at c0
    obtain ⟨m1, m2⟩ := zmod10 (x := a) (by omega)
    refine tX11_isGoer (ifz (fun c1 => ri (hq _ _ (by rw [m1] at c1; rw [if_pos (Or.inr (Or.inl c1))]; rfl) ag.rf)) (fun c1 => tX11_isWay (ifz (fun c2 => ri (hq _ _ (by rw [m2] at c2; rw [if_pos (Or.inr (Or.inr (Or.inl c2)))]; rfl) ag.rf)) (fun c2 => ?_))))
    rw [m1] at c1
    rw [m2] at c2
    refine ife (fun c3 => ri (hq _ _ ?_ ag.rf)) (fun c3 => ife (fun c4 => ri (hq _ _ ?_ ag.rf)) (fun c4 => ife (fun c5 => ri (hq _ _ ?_ ag.rf)) (fun c5 => ife (fun c6 => ?_) (fun c6 => ri (hq _ _ ?_ ag.rf)))))
    · rw [zlt, z1] at c3; rw [if_pos (by omega)]; rfl
    · rw [zlt, zl_200] at c4; rw [if_pos (by omega)]; rfl
    · rw [zlt, z0] at c5; rw [if_pos (by omega)]; rfl
    · rw [zlt, z1] at c3
      rw [zlt, zl_200] at c4
      rw [zlt, z0] at c5
      rw [zle, zl_9] at c6
      rw [if_neg (by omega)] at hq
      have hn : (((a.toInt / 10).toNat : Nat) : Int) < (I 1 1).toInt := by omega
      refine ife (fun c7 => ?_) (fun c7 => ?_)
      · rw [zle, z0] at c7
        rw [if_neg (by omega)] at hq
        generalize hR : ldF F p I (a.toInt % 10).toNat (a.toInt / 10).toNat b.toInt 9 1 = R at hq
        have key : ∀ m i J, 1 ≤ i → i + m = 10 → ag scC [] I J → ldF F p I (a.toInt % 10).toNat (a.toInt / 10).toNat b.toInt m i = R → wX11_load_81 G l (d + 108) (fun v I' L' => ∃ r, v = some (.int r) ∧ Q r I' L') (m + 1) b (a / 10) (a - a / 10 * 10) (Int32.ofNat i) J L := by
          intro m
          induction m with
          | zero =>
            intro i J hi1 hi ha hr
            unfold wX11_load_81
            rw [if_pos (by rw [zlt, zl_9, zo (by omega)]; omega)]
            exact ri (hq _ _ (by rw [← hr]; rfl) ha)
          | succ m ih =>
            intro i J hi1 hi ha hr
            unfold wX11_load_81
            rw [if_neg (by rw [zlt, zl_9, zo (by omega)]; omega)]
            refine tX11_carried (d := d + 101) (way := (a.toInt % 10).toNat) (n := (a.toInt / 10).toNat) (pts := i) hF ha hz (by omega) (by omega) hn (by omega) (by omega) rfl ⟨by omega, by omega⟩ (zo (by omega)) (by omega) (fun r J2 ha2 hr2 => ?_)
            have hall : _ ∧ _ ∧ ((ldR F p I (a.toInt % 10).toNat (a.toInt / 10).toNat b.toInt i).2 = true ↔ (ldR F p I (a.toInt % 10).toNat (a.toInt / 10).toNat b.toInt i).1 = 0 + i) := zld_all (F := F) (p := p) (way := (a.toInt % 10).toNat) (n := (a.toInt / 10).toNat) (part := (b.toInt + i - 1) / i) i 0 (dwk I) (I 25 2).toInt 0
            unfold ldF at hr
            refine ife (fun q => ?_) (fun q => ?_)
            · rw [zeq, hr2, zo (by omega)] at q
              rw [if_pos (hall.2.2.mpr (by omega))] at hr
              exact ri (hq _ _ (by rw [zo (by omega), ← hr]) ha2)
            · rw [zeq, hr2, zo (by omega)] at q
              rw [if_neg (fun z => q (by have := hall.2.2.mp z; omega))] at hr
              rw [zsucc]
              exact ih (i + 1) J2 (by omega) (by omega) ha2 hr
        exact ⟨_, key 9 1 I (by omega) (by omega) ag.rf hR⟩
      · rw [zle, z0] at c7
        rw [if_pos (by omega)] at hq
        exact tX11_carried (d := d + 101) (way := (a.toInt % 10).toNat) (n := (a.toInt / 10).toNat) (pts := c.toInt.toNat) hF ag.rf hz (by omega) (by omega) hn (by omega) (by omega) rfl ⟨by omega, by omega⟩ (by omega) (by omega) (fun r J2 ha2 hr2 => ri (hq _ _ hr2 ha2))
    · rw [zle, zl_9] at c6; rw [if_pos (by omega)]; rfl
  · have e6 : I1 71 6 = I 1 1 := by rw [ha.m 6]; exact hP.1
    refine wX12_load_ok ?_
    unfold wX12_load
    refine ife (fun c0 => ri (hq _ _ (by rw [zlt, z0] at c0; rw [if_pos (Or.inl c0)]; rfl) ag.rf)) (fun c0 => ?_)
    rw [zlt, z0] at c0
    obtain ⟨m1, m2⟩ := zmod10 (x := a) (by omega)
    refine tX12_isGoer (by rw [e6]; exact hg.1) (ifz (fun c1 => ri (hq _ _ (by rw [e6, z64, m1] at c1; rw [if_pos (Or.inr (Or.inl c1))]; rfl) ag.rf)) (fun c1 => tX12_isWay (ifz (fun c2 => ri (hq _ _ (by rw [z64, m2] at c2; rw [if_pos (Or.inr (Or.inr (Or.inl c2)))]; rfl) ag.rf)) (fun c2 => ?_))))
    rw [e6, z64, m1] at c1
    rw [z64, m2] at c2
    refine tX12_win (a := 1) (b := 200) (by decide) (by decide) (ifz (fun c3 => ri (hq _ _ (by rw [if_pos (Or.inr (Or.inr (Or.inr (Or.inl c3))))]; rfl) ag.rf)) (fun c3 => ?_))
    refine tX12_win (a := 0) (b := 9) (by decide) (by decide) (ifz (fun c4 => ri (hq _ _ (by rw [if_pos (Or.inr (Or.inr (Or.inr (Or.inr c4))))]; rfl) ag.rf)) (fun c4 => ?_))
    rw [if_neg (by omega)] at hq
    have hn : (((a.toInt / 10).toNat : Nat) : Int) < (I 1 1).toInt := by omega
    have one : ∀ (w : Int32) (pts : Nat) J (Q2 : Int32 → jS → jL → Prop), w.toInt = pts → 1 ≤ pts → pts ≤ 9 → ag scM tcM I1 J → (∀ (r : Int32) I', ag scM tcM I1 I' → r.toInt = (ldR F p I (a.toInt % 10).toNat (a.toInt / 10).toNat b.toInt pts).1 → I' 71 32 = (if (ldR F p I (a.toInt % 10).toNat (a.toInt / 10).toNat b.toInt pts).2 then 1 else 0) → Q2 r I' L) → cI G l mX12_loadOf (d + 108) [.ref 71, .int (a / 10), .int (a - a / 10 * 10), .int b, .int w] J L Q2 := fun w pts J Q2 hw h1 h9 haJ hQ => by
      have hall : ag (scC ++ scM) tcM I J := ha.th haJ
      have hIm : Im (u2 (cpk J 80 76 24) 71 20 (J 71 8)) p (p 0) (dwk I) (I 25 2).toInt := by
        have e76 : J 76 = I 76 := hall.c 76
        have e8 : J 71 8 = I 71 8 := hall.m 8
        have e21 : J 71 21 = I 71 21 := hall.m 21
        have e23 : J 71 23 = I 71 23 := hall.m 23
        refine ⟨fun s hs => ?_, fun s hs => ?_, ?_⟩
        · have f21 : (u2 (cpk J 80 76 24) 71 20 (J 71 8)) 71 21 = 0 := by rw [u2i (by decide), cpk_ne (by decide), e21]; exact hM.1
          have f23 : (u2 (cpk J 80 76 24) 71 20 (J 71 8)) 71 23 = -1 := by rw [u2i (by decide), cpk_ne (by decide), e23]; exact hM.2
          rw [f21, f23]
          exact rst_0
        · rw [u2n (by decide), cpk_eq hs, e76, (hI.1 s hs).1]; rfl
        · rw [u2e, e8, hI.2.1]
      exact tX12_loadOf (d := d + 5) (way := (a.toInt % 10).toNat) (n := (a.toInt / 10).toNat) (pts := pts) (hF.ag hall rfl) hIm hz (by omega) (by omega) hn (by omega) (by omega) rfl ⟨by omega, by omega⟩ hw ⟨h1, h9⟩ rfl (part_b ⟨by omega, by omega⟩ ⟨h1, h9⟩) (fun r J2 ha2 hr2 h32 => hQ r J2 (haJ.th ha2) hr2 h32)
    refine ife (fun c7 => ?_) (fun c7 => ?_)
    · rw [zle, z0] at c7
      rw [if_neg (by omega)] at hq
      generalize hR : ldF F p I (a.toInt % 10).toNat (a.toInt / 10).toNat b.toInt 9 1 = R at hq
      have key : ∀ m i J, 1 ≤ i → i + m = 10 → ag scM tcM I1 J → ldF F p I (a.toInt % 10).toNat (a.toInt / 10).toNat b.toInt m i = R → wX12_load_75 G l (d + 108) (fun v I' L' => ∃ r, v = some (.int r) ∧ Q r I' L') (m + 1) a b (Int32.ofNat i) J L := by
        intro m
        induction m with
        | zero =>
          intro i J hi1 hi haJ hr
          unfold wX12_load_75
          rw [if_pos (by rw [zlt, zl_9, zo (by omega)]; omega)]
          exact ri (hq _ _ (by rw [← hr]; rfl) haJ)
        | succ m ih =>
          intro i J hi1 hi haJ hr
          unfold wX12_load_75
          rw [if_neg (by rw [zlt, zl_9, zo (by omega)]; omega)]
          refine one _ i J _ (zo (by omega)) hi1 (by omega) haJ (fun r J2 ha2 hr2 h32 => ?_)
          unfold ldF at hr
          refine ife (fun q => ?_) (fun q => ?_)
          · rw [h32] at q
            by_cases hb : (ldR F p I (a.toInt % 10).toNat (a.toInt / 10).toNat b.toInt i).2 = true
            · rw [if_pos hb] at q; exact absurd q (by decide)
            · rw [if_neg hb] at hr
              rw [zsucc]
              exact ih (i + 1) J2 (by omega) (by omega) ha2 hr
          · rw [h32] at q
            by_cases hb : (ldR F p I (a.toInt % 10).toNat (a.toInt / 10).toNat b.toInt i).2 = true
            · rw [if_pos hb] at hr
              exact ri (hq _ _ (by rw [zo (by omega), ← hr]) ha2)
            · rw [if_neg hb] at q; exact absurd rfl q
      exact ⟨_, key 9 1 I1 (by omega) (by omega) ag.rf hR⟩
    · rw [zle, z0] at c7
      rw [if_pos (by omega)] at hq
      exact one _ c.toInt.toNat I1 _ (by omega) (by omega) (by omega) ag.rf (fun r J2 ha2 hr2 _ => ri (hq _ _ hr2 ha2))
end LD

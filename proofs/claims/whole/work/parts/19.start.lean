def jI00 : jS := fun _ _ => 0
def jL0 : jL := fun _ _ => 0
def jR00 : jR := jRin
def jI0 : jS := (u2 (u2 (u2 (u2 (u2 (u2 (u2 (u2 (u2 (u2 (u2 (u2 (u2 (u2 (u2 (u2 (u2 (u2 (u2 (u2 (u2 (u2 (u2 (u2 (u2 (u2 (u2 (u2 (u2 (u2 (u2 (u2 (u2 (u2 (u2 (u2 (u2 (u2 (u2 (u2 (u2 (u2 (u2 (u2 (u2 (u2 (u2 (u2 (u2 (u2 (u2 (u2 (u2 (u2 (u2 (u2 (u2 (u2 (u2 (u2 (u2 (u2 (u2 (u2 (u2 (u2 (u2 (u2 (u2 (u2 (u2 (u2 (u2 (u2 (u2 (u2 (u2 (u2 (u2 (u2 (u2 (u2 (u2 (u2 (u2 (fl (fl (u2 (u2 (u2 (u2 (u2 (u2 (u2 (u2 (u2 (u2 (u2 (u2 (u2 (u2 (u2 (u2 (u2 (u2 (u2 (u2 (u2 (u2 (u2 (fl (fl (fl (fl (fl (fl (fl (fl (fl jI00 3 24 (30 : Int32)) 4 24 (1 : Int32)) 5 24 (0 : Int32)) 6 24 (10 : Int32)) 7 24 (1 : Int32)) 8 24 (0 : Int32)) 9 24 (5 : Int32)) 10 24 (2 : Int32)) 11 24 (999 : Int32)) 1 1 (0 : Int32)) 12 4 (0 : Int32)) 12 5 (0 : Int32)) 17 5 (0 : Int32)) 17 6 (0 : Int32)) 17 7 (-1 : Int32)) 17 8 (0 : Int32)) 17 9 (0 : Int32)) 23 2 (0 : Int32)) 23 3 (0 : Int32)) 23 4 (0 : Int32)) 23 5 (0 : Int32)) 25 2 (0 : Int32)) 28 4 (-2 : Int32)) 24 4 (0 : Int32)) 24 5 (0 : Int32)) 32 2 (0 : Int32)) 31 5 (0 : Int32)) 31 6 (0 : Int32)) 31 7 (-2 : Int32)) 38 2 (0 : Int32)) 37 6 (-2 : Int32)) 52 2 (0 : Int32)) 58 6 (-1 : Int32)) 60 6 (-1 : Int32)) 68 2 (0 : Int32)) 68 3 (0 : Int32)) 68 4 (0 : Int32)) 71 23 (-1 : Int32)) 89 0 (-1 : Int32)) 89 1 (-1 : Int32)) 89 2 (-1 : Int32)) 89 3 (-1 : Int32)) 89 4 (-1 : Int32)) 89 5 (-1 : Int32)) 71 12 (-1 : Int32)) 72 0 (30 : Int32)) 72 24 (1 : Int32)) 72 72 (10 : Int32)) 72 1 (30 : Int32)) 72 25 (1 : Int32)) 72 73 (10 : Int32)) 72 2 (30 : Int32)) 72 26 (1 : Int32)) 72 74 (10 : Int32)) 72 3 (30 : Int32)) 72 27 (1 : Int32)) 72 75 (10 : Int32)) 72 4 (30 : Int32)) 72 28 (1 : Int32)) 72 76 (10 : Int32)) 72 5 (30 : Int32)) 72 29 (1 : Int32)) 72 77 (10 : Int32)) 72 6 (30 : Int32)) 72 30 (1 : Int32)) 72 78 (10 : Int32)) 72 7 (30 : Int32)) 72 31 (1 : Int32)) 72 79 (10 : Int32)) 72 8 (30 : Int32)) 72 32 (1 : Int32)) 72 80 (10 : Int32)) 72 9 (30 : Int32)) 72 33 (1 : Int32)) 72 81 (10 : Int32)) 72 10 (30 : Int32)) 72 34 (1 : Int32)) 72 82 (10 : Int32)) 72 11 (30 : Int32)) 72 35 (1 : Int32)) 72 83 (10 : Int32)) 72 12 (30 : Int32)) 72 36 (1 : Int32)) 72 84 (10 : Int32)) 72 13 (30 : Int32)) 72 37 (1 : Int32)) 72 85 (10 : Int32)) 72 14 (30 : Int32)) 72 38 (1 : Int32)) 72 86 (10 : Int32)) 72 15 (30 : Int32)) 72 39 (1 : Int32)) 72 87 (10 : Int32)) 72 16 (30 : Int32)) 72 40 (1 : Int32)) 72 88 (10 : Int32)) 72 17 (30 : Int32)) 72 41 (1 : Int32)) 72 89 (10 : Int32)) 72 18 (30 : Int32)) 72 42 (1 : Int32)) 72 90 (10 : Int32)) 72 19 (30 : Int32)) 72 43 (1 : Int32)) 72 91 (10 : Int32)) 72 20 (30 : Int32)) 72 44 (1 : Int32)) 72 92 (10 : Int32)) 72 21 (30 : Int32)) 72 45 (1 : Int32)) 72 93 (10 : Int32)) 72 22 (30 : Int32)) 72 46 (1 : Int32)) 72 94 (10 : Int32)) 72 23 (30 : Int32)) 72 47 (1 : Int32)) 72 95 (10 : Int32)) 72 124 (999 : Int32)) 71 40 (-2 : Int32))
def jRc : jR := (u2R (u2R (u2R (u2R (u2R (u2R (u2R (u2R (u2R (u2R (u2R (u2R (u2R (u2R (u2R (u2R (u2R (u2R (u2R (u2R (u2R (u2R (u2R (u2R (u2R (u2R (u2R (u2R (u2R (u2R (u2R (u2R (u2R (u2R (u2R (u2R (u2R (u2R (u2R (u2R (u2R (u2R (u2R (u2R (u2R (u2R (u2R (u2R (u2R (u2R (u2R (u2R (u2R (u2R (u2R (u2R (u2R (u2R (u2R (u2R (u2R (u2R (u2R (u2R (u2R (u2R (u2R (u2R (u2R (u2R (u2R (u2R (u2R (u2R (u2R (u2R (u2R jR00 1 0 (some 2)) 0 0 (some 1)) 12 0 (some 13)) 12 1 (some 14)) 12 2 (some 15)) 12 3 (some 16)) 0 1 (some 12)) 17 0 (some 18)) 17 1 (some 19)) 17 2 (some 20)) 17 3 (some 21)) 17 4 (some 22)) 0 2 (some 17)) 23 0 (some 1)) 23 1 (some 17)) 0 3 (some 23)) 25 0 (some 26)) 25 1 (some 27)) 24 0 (some 25)) 24 1 (some 28)) 24 2 (some 29)) 24 3 (some 30)) 0 4 (some 24)) 31 0 (some 1)) 31 1 (some 23)) 32 0 (some 33)) 32 1 (some 34)) 31 2 (some 32)) 31 3 (some 35)) 31 4 (some 36)) 0 5 (some 31)) 37 0 (some 1)) 37 1 (some 23)) 38 0 (some 39)) 38 1 (some 40)) 37 2 (some 38)) 37 3 (some 41)) 37 4 (some 49)) 37 5 (some 50)) 0 6 (some 37)) 51 0 (some 1)) 51 1 (some 23)) 52 0 (some 53)) 52 1 (some 54)) 51 2 (some 52)) 51 3 (some 55)) 51 4 (some 56)) 0 7 (some 51)) 57 0 (some 58)) 57 1 (some 59)) 57 2 (some 60)) 57 3 (some 61)) 0 8 (some 57)) 68 0 (some 69)) 68 1 (some 70)) 0 9 (some 68)) 71 0 (some 72)) 71 1 (some 73)) 71 2 (some 74)) 71 3 (some 75)) 71 7 (some 76)) 71 9 (some 77)) 71 11 (some 78)) 71 18 (some 79)) 71 19 (some 80)) 71 26 (some 81)) 71 27 (some 82)) 71 29 (some 83)) 71 33 (some 84)) 71 35 (some 85)) 71 42 (some 86)) 71 44 (some 87)) 71 45 (some 88)) 71 49 (some 89)) 71 50 (some 90)) 71 51 (some 91)) 71 52 (some 92))
def jsl1 : List Int32 := [30, 1, 0, 10, 1, 0, 5, 2, 999]
def jsl2 : List Int32 := [0, 0, 0, 0, 1, 0, 0, 1, 0]
def jsl3 : List Int32 := [99, 9, 12, 99, 60, 1, 60, 9, 999]
def jsl4 : List Int32 := [1, 10, 11, 2, 20, 0, 0, 0, 0, 30, 0, 0, 0, 41, 40, 0, 0, 0, 50, 0, 0, 0, 0, 60, 70, 0, 0, 0, 0, 80, 0, 81]
def jsl5 : List Int32 := [-1, 0, 0, 2, 1, 3, 0, 4]
/-- what the static arrays hold -/
def jSt (G : jG) : Prop := G.2.2.2.2 1 = (9, fun j => jsl1.getD j 0) ∧ G.2.2.2.2 2 = (9, fun j => jsl2.getD j 0) ∧ G.2.2.2.2 3 = (9, fun j => jsl3.getD j 0) ∧ G.2.2.2.2 4 = (32, fun j => jsl4.getD j 0) ∧ G.2.2.2.2 5 = (8, fun j => jsl5.getD j 0)
/-- the world read otherwise where it doesn't matter -/
def jAg (ks : jK) (I I' : jS) (L L' : jL) (R R' : jR) : Prop := ∀ (r : Nat) (q : Nat × Nat), ks[r]? = some q → ∀ i, i < q.2 → I r i = I' r i ∧ L r i = L' r i ∧ R r i = R' r i
theorem jAg_in {G : jG} {ks : jK} {I I' : jS} {L L' : jL} {R R' : jR} {H : Heap} (ha : jAg ks I I' L L' R R') (h : jIn G (ks, I, L, R) H) : jIn G (ks, I', L', R') H := by
  obtain ⟨hP, hD, hz, hl⟩ := h
  refine ⟨fun k x hx => ?_, jD_of hl, hz, hl⟩
  obtain ⟨q, hq, rfl⟩ := jws_at hx
  have hq : ks[k]? = some q := hq
  have h1 := hP k _ (jws_get (G := G) (w := (ks, I, L, R)) hq)
  have h2 := ha k q hq
  revert h1
  show va_at G.1 vwCl (jad G k, jent G I L R k q) H → va_at G.1 vwCl (jad G k, jent G I' L' R' k q) H
  have hI : arrV (G.2.1 0) q.2 (fun j => .int (I k j)) = arrV (G.2.1 0) q.2 (fun j => .int (I' k j)) := jarr_congr fun i hi => by rw [(h2 i hi).1]
  have hI4 : arrV (G.2.1 4) q.2 (fun j => .int (I k j)) = arrV (G.2.1 4) q.2 (fun j => .int (I' k j)) := jarr_congr fun i hi => by rw [(h2 i hi).1]
  have hL : arrV (G.2.1 1) q.2 (fun j => .long (L k j)) = arrV (G.2.1 1) q.2 (fun j => .long (L' k j)) := jarr_congr fun i hi => by rw [(h2 i hi).2.1]
  have hR2 : arrV (G.2.1 2) q.2 (fun j => va_rf ((R k j).map (jad G))) = arrV (G.2.1 2) q.2 (fun j => va_rf ((R' k j).map (jad G))) := jarr_congr fun i hi => by rw [(h2 i hi).2.2]
  have hR3 : arrV (G.2.1 3) q.2 (fun j => va_rf ((R k j).map (jad G))) = arrV (G.2.1 3) q.2 (fun j => va_rf ((R' k j).map (jad G))) := jarr_congr fun i hi => by rw [(h2 i hi).2.2]
  have ho : (List.range q.2).map (jsv G I L R k q.1) = (List.range q.2).map (jsv G I' L' R' k q.1) := by
    apply List.map_congr_left
    intro i hi
    have hi := List.mem_range.mp hi
    simp only [jsv, (h2 i hi).1, (h2 i hi).2.1, (h2 i hi).2.2]
  unfold jent
  split
  · intro h1; exact (show H[jad G k]? = _ from h1).trans (congrArg some hI)
  · split
    · intro h1; exact (show H[jad G k]? = _ from h1).trans (congrArg some hL)
    · split
      · intro h1; exact (show H[jad G k]? = _ from h1).trans (congrArg some hR2)
      · split
        · intro h1; exact (show H[jad G k]? = _ from h1).trans (congrArg some hR3)
        · split
          · intro h1; exact (show H[jad G k]? = _ from h1).trans (congrArg some hI4)
          · rw [ho]; exact id
theorem J.ag {G : jG} {l : Launch} {y : MethodName} {cc : ByteArray} {nL d mc ms pc : Nat} {ls : List (Option Value)} {st : List Value} {ks : jK} {I I' : jS} {L L' : jL} {R R' : jR} {Q : Option Value → jW → Prop} (ha : jAg ks I I' L L' R R') (h : J G l y cc nL d mc ms pc ls st (ks, I', L', R') Q) : J G l y cc nL d mc ms pc ls st (ks, I, L, R) Q :=
  fun p e Rm s m args below meth c Z H locs cells slots lsA hC hR hH hl hZ => h p e Rm s m args below meth c Z H locs cells slots lsA hC hR ⟨jAg_in ha hH.1, hH.2⟩ hl hZ
def jAgB : Bool := (List.range 93).all (fun r => (List.range (jKS.getD r (0, 0)).2).all (fun i => jRc r i == jR0 r i))
set_option maxRecDepth 100000 in
theorem jAgB_ok : jAgB = true := by decide +kernel
theorem jAg0 : jAg jKS jI0 jI0 jL0 jL0 jRc jR0 := by
  intro r q hq i hi
  refine ⟨rfl, rfl, ?_⟩
  have hr : r < 93 := (List.getElem?_eq_some_iff.mp hq).1
  have h := jAgB_ok
  unfold jAgB at h
  rw [List.all_eq_true] at h
  have h2 := h r (List.mem_range.mpr hr)
  rw [List.all_eq_true] at h2
  have h3 := h2 i (List.mem_range.mpr (by rw [List.getD_eq_getElem?_getD, hq]; exact hi))
  exact eq_of_beq h3
theorem jI00_Z : jZ 0 jI00 jL0 jR00 := ⟨fun _ _ => rfl, fun _ _ => rfl, fun _ _ => rfl⟩
set_option maxRecDepth 100000 in
set_option maxHeartbeats 4000000 in
/-- the law's walk from its entry: both objects are made, then its loop -/
theorem law_J {G : jG} {l : Launch} {Q : Option Value → jS → jL → Prop} (hF : jFst G) (h : ∃ n, wL_law_18 G l 2000 Q n 0 jI0 jL0) : J G l yL_law cL_law 4 2001 93 3290 0 [some (.ref 1000), none, none, none] [] (jKS.take 0, jI00, jL0, jR00) (jQm (some .boolean) Q) := by
  have hz := jI00_Z
  refine jk_new (mc := 92) (ms := 3280) (n := 0) ks_0 wc_X11 (by decide) cl_L_7 in_X11 wi_X11 rfl (by decide) (df_X11 (hz.1 0 (by decide)) (hz.2.1 0 (by decide)) (hz.2.2 0 (by decide))) dL_law_0 ?_
  have hz := hz.mono (show 0 ≤ 1 by decide)
  refine jr_dup dL_law_3 rfl ?_
  refine jr_callI (mc2 := 70) (ms2 := 1854) (mc := 22) (ms := 1426) im_L_9 (r := 0) (av := []) (st := [.ref 0]) rfl rfl (Nat.le_of_ble_eq_true rfl) dL_law_4 (k_X11_0 (d := 1997) hF hz ?_)
  show J G l yL_law cL_law 4 _ _ _ _ _ _ _ _
  refine jr_astore_n dL_law_7 rfl (by decide) rfl ?_
  have hz := hz.mono (show 1 ≤ 71 by decide)
  have hz := hz.fl (k := 24) (x := (30 : Int32)) (show 3 < 71 by decide)
  have hz := hz.fl (k := 24) (x := (1 : Int32)) (show 4 < 71 by decide)
  have hz := hz.fl (k := 24) (x := (0 : Int32)) (show 5 < 71 by decide)
  have hz := hz.fl (k := 24) (x := (10 : Int32)) (show 6 < 71 by decide)
  have hz := hz.fl (k := 24) (x := (1 : Int32)) (show 7 < 71 by decide)
  have hz := hz.fl (k := 24) (x := (0 : Int32)) (show 8 < 71 by decide)
  have hz := hz.fl (k := 24) (x := (5 : Int32)) (show 9 < 71 by decide)
  have hz := hz.fl (k := 24) (x := (2 : Int32)) (show 10 < 71 by decide)
  have hz := hz.fl (k := 24) (x := (999 : Int32)) (show 11 < 71 by decide)
  have hz := hz.u2 (i := 1) (x := (0 : Int32)) (show 1 < 71 by decide)
  have hz := hz.u2 (i := 4) (x := (0 : Int32)) (show 12 < 71 by decide)
  have hz := hz.u2 (i := 5) (x := (0 : Int32)) (show 12 < 71 by decide)
  have hz := hz.u2 (i := 5) (x := (0 : Int32)) (show 17 < 71 by decide)
  have hz := hz.u2 (i := 6) (x := (0 : Int32)) (show 17 < 71 by decide)
  have hz := hz.u2 (i := 7) (x := (-1 : Int32)) (show 17 < 71 by decide)
  have hz := hz.u2 (i := 8) (x := (0 : Int32)) (show 17 < 71 by decide)
  have hz := hz.u2 (i := 9) (x := (0 : Int32)) (show 17 < 71 by decide)
  have hz := hz.u2 (i := 2) (x := (0 : Int32)) (show 23 < 71 by decide)
  have hz := hz.u2 (i := 3) (x := (0 : Int32)) (show 23 < 71 by decide)
  have hz := hz.u2 (i := 4) (x := (0 : Int32)) (show 23 < 71 by decide)
  have hz := hz.u2 (i := 5) (x := (0 : Int32)) (show 23 < 71 by decide)
  have hz := hz.u2 (i := 2) (x := (0 : Int32)) (show 25 < 71 by decide)
  have hz := hz.u2 (i := 4) (x := (-2 : Int32)) (show 28 < 71 by decide)
  have hz := hz.u2 (i := 4) (x := (0 : Int32)) (show 24 < 71 by decide)
  have hz := hz.u2 (i := 5) (x := (0 : Int32)) (show 24 < 71 by decide)
  have hz := hz.u2 (i := 2) (x := (0 : Int32)) (show 32 < 71 by decide)
  have hz := hz.u2 (i := 5) (x := (0 : Int32)) (show 31 < 71 by decide)
  have hz := hz.u2 (i := 6) (x := (0 : Int32)) (show 31 < 71 by decide)
  have hz := hz.u2 (i := 7) (x := (-2 : Int32)) (show 31 < 71 by decide)
  have hz := hz.u2 (i := 2) (x := (0 : Int32)) (show 38 < 71 by decide)
  have hz := hz.u2 (i := 6) (x := (-2 : Int32)) (show 37 < 71 by decide)
  have hz := hz.u2 (i := 2) (x := (0 : Int32)) (show 52 < 71 by decide)
  have hz := hz.fl (k := 6) (x := (-1 : Int32)) (show 58 < 71 by decide)
  have hz := hz.fl (k := 6) (x := (-1 : Int32)) (show 60 < 71 by decide)
  have hz := hz.u2 (i := 2) (x := (0 : Int32)) (show 68 < 71 by decide)
  have hz := hz.u2 (i := 3) (x := (0 : Int32)) (show 68 < 71 by decide)
  have hz := hz.u2 (i := 4) (x := (0 : Int32)) (show 68 < 71 by decide)
  have hz := hz.u2R (i := 0) (x := (some 2)) (show 1 < 71 by decide)
  have hz := hz.u2R (i := 0) (x := (some 1)) (show 0 < 71 by decide)
  have hz := hz.u2R (i := 0) (x := (some 13)) (show 12 < 71 by decide)
  have hz := hz.u2R (i := 1) (x := (some 14)) (show 12 < 71 by decide)
  have hz := hz.u2R (i := 2) (x := (some 15)) (show 12 < 71 by decide)
  have hz := hz.u2R (i := 3) (x := (some 16)) (show 12 < 71 by decide)
  have hz := hz.u2R (i := 1) (x := (some 12)) (show 0 < 71 by decide)
  have hz := hz.u2R (i := 0) (x := (some 18)) (show 17 < 71 by decide)
  have hz := hz.u2R (i := 1) (x := (some 19)) (show 17 < 71 by decide)
  have hz := hz.u2R (i := 2) (x := (some 20)) (show 17 < 71 by decide)
  have hz := hz.u2R (i := 3) (x := (some 21)) (show 17 < 71 by decide)
  have hz := hz.u2R (i := 4) (x := (some 22)) (show 17 < 71 by decide)
  have hz := hz.u2R (i := 2) (x := (some 17)) (show 0 < 71 by decide)
  have hz := hz.u2R (i := 0) (x := (some 1)) (show 23 < 71 by decide)
  have hz := hz.u2R (i := 1) (x := (some 17)) (show 23 < 71 by decide)
  have hz := hz.u2R (i := 3) (x := (some 23)) (show 0 < 71 by decide)
  have hz := hz.u2R (i := 0) (x := (some 26)) (show 25 < 71 by decide)
  have hz := hz.u2R (i := 1) (x := (some 27)) (show 25 < 71 by decide)
  have hz := hz.u2R (i := 0) (x := (some 25)) (show 24 < 71 by decide)
  have hz := hz.u2R (i := 1) (x := (some 28)) (show 24 < 71 by decide)
  have hz := hz.u2R (i := 2) (x := (some 29)) (show 24 < 71 by decide)
  have hz := hz.u2R (i := 3) (x := (some 30)) (show 24 < 71 by decide)
  have hz := hz.u2R (i := 4) (x := (some 24)) (show 0 < 71 by decide)
  have hz := hz.u2R (i := 0) (x := (some 1)) (show 31 < 71 by decide)
  have hz := hz.u2R (i := 1) (x := (some 23)) (show 31 < 71 by decide)
  have hz := hz.u2R (i := 0) (x := (some 33)) (show 32 < 71 by decide)
  have hz := hz.u2R (i := 1) (x := (some 34)) (show 32 < 71 by decide)
  have hz := hz.u2R (i := 2) (x := (some 32)) (show 31 < 71 by decide)
  have hz := hz.u2R (i := 3) (x := (some 35)) (show 31 < 71 by decide)
  have hz := hz.u2R (i := 4) (x := (some 36)) (show 31 < 71 by decide)
  have hz := hz.u2R (i := 5) (x := (some 31)) (show 0 < 71 by decide)
  have hz := hz.u2R (i := 0) (x := (some 1)) (show 37 < 71 by decide)
  have hz := hz.u2R (i := 1) (x := (some 23)) (show 37 < 71 by decide)
  have hz := hz.u2R (i := 0) (x := (some 39)) (show 38 < 71 by decide)
  have hz := hz.u2R (i := 1) (x := (some 40)) (show 38 < 71 by decide)
  have hz := hz.u2R (i := 2) (x := (some 38)) (show 37 < 71 by decide)
  have hz := hz.u2R (i := 3) (x := (some 41)) (show 37 < 71 by decide)
  have hz := hz.u2R (i := 4) (x := (some 49)) (show 37 < 71 by decide)
  have hz := hz.u2R (i := 5) (x := (some 50)) (show 37 < 71 by decide)
  have hz := hz.u2R (i := 6) (x := (some 37)) (show 0 < 71 by decide)
  have hz := hz.u2R (i := 0) (x := (some 1)) (show 51 < 71 by decide)
  have hz := hz.u2R (i := 1) (x := (some 23)) (show 51 < 71 by decide)
  have hz := hz.u2R (i := 0) (x := (some 53)) (show 52 < 71 by decide)
  have hz := hz.u2R (i := 1) (x := (some 54)) (show 52 < 71 by decide)
  have hz := hz.u2R (i := 2) (x := (some 52)) (show 51 < 71 by decide)
  have hz := hz.u2R (i := 3) (x := (some 55)) (show 51 < 71 by decide)
  have hz := hz.u2R (i := 4) (x := (some 56)) (show 51 < 71 by decide)
  have hz := hz.u2R (i := 7) (x := (some 51)) (show 0 < 71 by decide)
  have hz := hz.u2R (i := 0) (x := (some 58)) (show 57 < 71 by decide)
  have hz := hz.u2R (i := 1) (x := (some 59)) (show 57 < 71 by decide)
  have hz := hz.u2R (i := 2) (x := (some 60)) (show 57 < 71 by decide)
  have hz := hz.u2R (i := 3) (x := (some 61)) (show 57 < 71 by decide)
  have hz := hz.u2R (i := 8) (x := (some 57)) (show 0 < 71 by decide)
  have hz := hz.u2R (i := 0) (x := (some 69)) (show 68 < 71 by decide)
  have hz := hz.u2R (i := 1) (x := (some 70)) (show 68 < 71 by decide)
  have hz := hz.u2R (i := 9) (x := (some 68)) (show 0 < 71 by decide)
  refine jk_new (mc := 21) (ms := 1373) (n := 71) ks_71 wc_X12 (by decide) cl_L_10 in_X12 wi_X12 rfl (by decide) (df_X12 (hz.1 71 (by decide)) (hz.2.1 71 (by decide)) (hz.2.2 71 (by decide))) dL_law_8 ?_
  have hz := hz.mono (show 71 ≤ 72 by decide)
  refine jr_dup dL_law_11 rfl ?_
  refine jr_callI (mc2 := 21) (ms2 := 1373) (mc := 0) (ms := 0) im_L_12 (r := 71) (av := []) (st := [.ref 71]) rfl rfl (Nat.le_of_ble_eq_true rfl) dL_law_12 (k_X12_71 (d := 1999) hz ?_)
  show J G l yL_law cL_law 4 _ _ _ _ _ _ _ _
  refine jr_astore_n dL_law_15 rfl (by decide) rfl ?_
  refine jr_iconst dL_law_16 kic_0 ?_
  refine jr_istore_n dL_law_17 rfl (by decide) rfl ?_
  obtain ⟨n, h⟩ := h
  have h2 := wL_law_18_ok (d := 2000) n 0 jI0 jL0 h
  exact J.sub (J.ag jAg0 h2) (jsub_some (jsub_some (jsub_some (jsub_some jsub_nil))))

/-! new int[n][m], new long[n][m] -/
theorem jarr_congr {cA : ClassId} {n : Nat} {f g : Nat → Value} (h : ∀ i, i < n → f i = g i) : arrV cA n f = arrV cA n g := by
  have hs : (arrV cA n f).slots = (arrV cA n g).slots := by
    apply Array.ext_getElem?
    intro i
    by_cases hi : i < n
    · rw [arrV_read _ _ hi, arrV_read _ _ hi, h i hi]
    · rw [Array.getElem?_eq_none (by rw [arrV_size]; omega), Array.getElem?_eq_none (by rw [arrV_size]; omega)]
  show ({ cls := cA, slots := (arrV cA n f).slots, vm := .none } : Cell) = { cls := cA, slots := (arrV cA n g).slots, vm := .none }
  rw [hs]
theorem jouter (c : ClassId) (N h0 : Nat) : ∀ i : Nat, Jvm.Free.Multi.outerC c N h0 i = arrV c N (fun j => va_rf (if j < i then some (h0 + 1 + j) else none))
  | 0 => by
    show ({ cls := c, slots := Array.replicate N .null, vm := .none } : Cell) = _
    rw [arrV_new]
    refine congrArg (arrV c N) (funext fun j => ?_)
    simp [va_rf]
  | i + 1 => by
    show (Jvm.Free.Multi.outerC c N h0 i).setSlot i (.ref (h0 + 1 + i)) = _
    rw [jouter c N h0 i, arrV_store]
    refine congrArg (arrV c N) (funext fun j => ?_)
    by_cases e : j = i
    · subst e
      simp [updV, va_rf]
    · by_cases h : j < i
      · simp [updV, e, h, Nat.lt_succ_of_lt h]
      · simp [updV, e, h, show ¬ j < i + 1 by omega]
section JNM
variable {G : jG} {l : Launch} {y : MethodName} {cc : ByteArray} {nL d mc ms pc : Nat} {ls : List (Option Value)} {st : List Value} {ks : jK} {I : jS} {L : jL} {R : jR} {Q : Option Value → jW → Prop}
theorem jws_at {w : jW} {k : Nat} {x : Nat × va_E} (h : (jws G w)[k]? = some x) : ∃ q, w.1[k]? = some q ∧ x = (jad G k, jent G w.2.1 w.2.2.1 w.2.2.2 k q) := by
  have hl : k < w.1.length := by have := (List.getElem?_eq_some_iff.mp h).1; rwa [jws_len] at this
  cases hq : w.1[k]? with
  | none => have : w.1.length ≤ k := by simpa using hq
            omega
  | some q => rw [jws_get hq] at h; exact ⟨q, rfl, (Option.some.inj h).symm⟩
theorem jD_of {w : jW} (h : w.1.length ≤ 1000) : va_D (jA G) (jws G w) := by
  refine ⟨fun i j x y hi hj hxy => ?_, fun k x hx => ?_⟩
  · have h1 : i < w.1.length := by have := (List.getElem?_eq_some_iff.mp hi).1; rwa [jws_len] at this
    have h2 : j < w.1.length := by have := (List.getElem?_eq_some_iff.mp hj).1; rwa [jws_len] at this
    obtain ⟨q, -, rfl⟩ := jws_at hi
    obtain ⟨q', -, rfl⟩ := jws_at hj
    have hxy : jad G i = jad G j := hxy
    rw [jad_lt (by omega), jad_lt (by omega)] at hxy
    omega
  · have h1 : k < w.1.length := by have := (List.getElem?_eq_some_iff.mp hx).1; rwa [jws_len] at this
    obtain ⟨q, -, rfl⟩ := jws_at hx
    show G.2.2.1 ≤ jad G k
    rw [jad_lt (by omega)]
    omega
theorem jH_grow {s : State} {H H1 : Heap} {locs : List Loc} {qs : jK} (hH : jH G (ks, I, L, R) s H locs) (hN : ks.length + qs.length ≤ jN) (hz : H1.size = G.2.2.1 + (ks.length + qs.length)) (oq : ∀ x, x < H.size → H1[x]? = H[x]?) (hat : ∀ (j : Nat) (q : Nat × Nat), qs[j]? = some q → va_at G.1 vwCl (jad G (ks.length + j), jent G I L R (ks.length + j) q) H1) : jH G (ks ++ qs, I, L, R) s H1 locs := by
  obtain ⟨⟨hP, hD, hsz, hl⟩, hS⟩ := hH
  have hjN : jN = 93 := rfl
  refine ⟨⟨fun k x hx => ?_, jD_of (by show (ks ++ qs).length ≤ 1000; rw [List.length_append]; omega), fun _ => by show H1.size = G.2.2.1 + (ks ++ qs).length; rw [List.length_append]; exact hz, by show (ks ++ qs).length ≤ 1000; rw [List.length_append]; omega⟩, ?_⟩
  · obtain ⟨q, hq, rfl⟩ := jws_at hx
    have hq : (ks ++ qs)[k]? = some q := hq
    by_cases hk : k < ks.length
    · rw [List.getElem?_append_left hk] at hq
      have h1 := jws_get (G := G) (w := (ks, I, L, R)) hq
      exact (hP k _ h1).kept (oq _ ((hP k _ h1).lt))
    · rw [List.getElem?_append_right (by omega)] at hq
      have h1 := hat _ q hq
      rw [show ks.length + (k - ks.length) = k by omega] at h1
      exact h1
  · have hle : H.size ≤ H1.size := by
      apply Nat.le_of_not_lt
      intro h
      have := oq H1.size h
      rw [Array.getElem?_eq_none (Nat.le_refl _)] at this
      have h2 := Array.getElem?_eq_none_iff.mp this.symm
      omega
    exact ⟨Nat.le_trans hS.1 hle, fun x h1 h2 => (oq x (Nat.lt_of_lt_of_le h1 hS.1)).trans (hS.2.1 x h1 h2), hS.2.2⟩
theorem jr_multi_i {index : Nat} {n k : Int32} {N K n0 : Nat} (hlk : Cond.classLink y.cls index "[[I" ∈ jWS) (harr : Cond.arrayClass .int ∈ jWS) (hn : ¬ n < 0) (hk : ¬ k < 0) (hN : n.toNatClampNeg = N) (hK : k.toNatClampNeg = K) (hb1 : N ≤ 1000) (hb2 : K ≤ 1000) (hlen : ks.length = n0) (hlt : n0 + N < jN) (hI : ∀ j, j < N → I (n0 + 1 + j) = fun _ => 0) (hR0 : ∀ j, j < N → R n0 j = some (n0 + 1 + j)) (hdg : decode cc pc = .ok (.multianewarray index 2, 4))
    (kk : J G l y cc nL d mc ms (pc + 4) ls (.ref n0 :: st) (ks ++ (22, N) :: List.replicate N (20, K), I, L, R) Q) : J G l y cc nL d (1 + N + mc) (N + N * K + ms) pc ls (.int k :: .int n :: st) (ks, I, L, R) Q := by
  subst hlen
  subst hN
  subst hK
  intro p e Rm s m args below meth c Z H locs cells slots lsA hC hR hH hl hZ
  have hts := hC.2.2.2.2.1
  have hKK := hC.2.2.2.2.2.1.1
  have hs : H.size = G.2.2.1 + ks.length := hH.1.2.2.1 (show ks.length < jN by omega)
  have hjN : jN = 93 := rfl
  have ha : jad G ks.length = H.size := by rw [jad_lt (by omega), hs]
  intro T hT Xs
  obtain ⟨vm₁, cA, comp, -, fA, fC, hO, -, X', step⟩ := Xs.multianewarray2F hC.1 hC.2.2.2.1 (ty := .int) (hts _ hlk) (hC.2.2.2.2.2.1.2.2.2.2 (.arrayOver (.array .int)) (by decide +kernel)) (hts _ harr) (g := F0 m pc lsA (.int k :: .int n :: st.map (jcv G))) rfl (by rw [hC.2.1]; exact hdg) rfl hn hk (by omega) (by show k.toNatClampNeg * 4 ≤ _; omega) (by omega) rfl rfl (by have := hR.2.2.1; omega) (by have := hR.2.2.2; omega)
  have hcO : cA = G.2.1 2 := Option.some.inj (fA.symm.trans (hKK.2 2 _ rfl).2)
  have hcI : comp = G.2.1 0 := Option.some.inj (fC.symm.trans (hKK.2 0 _ rfl).2)
  subst hcO
  subst hcI
  generalize hF : Jvm.Free.Multi.fill (T.setVm vm₁) (G.2.1 2) (G.2.1 0) n.toNatClampNeg k.toNatClampNeg (defaultValue .int) n.toNatClampNeg = F at X' step
  have hTh : (T.setVm vm₁).heap = H := hT
  obtain ⟨f1, f2, -, -⟩ := Jvm.Free.Multi.fill_facts (T.setVm vm₁) (G.2.1 2) (G.2.1 0) n.toNatClampNeg k.toNatClampNeg (defaultValue .int) n.toNatClampNeg
  rw [hF, hTh] at f1 f2
  have hold : ∀ x : Nat, x < H.size → F.heap[x]? = H[x]? := fun x hx => by
    have := Jvm.Free.Multi.fill_old (T.setVm vm₁) (G.2.1 2) (G.2.1 0) n.toNatClampNeg k.toNatClampNeg (defaultValue .int) (a := x) (by rw [hTh]; exact hx) n.toNatClampNeg
    rw [hF, hTh] at this
    exact this
  have hrow : ∀ j : Nat, j < n.toNatClampNeg → F.heap[H.size + 1 + j]? = some (Jvm.Free.Multi.innerC (G.2.1 0) k.toNatClampNeg (defaultValue .int)) := fun j hj => by
    have := Jvm.Free.Multi.fill_inner (T.setVm vm₁) (G.2.1 2) (G.2.1 0) n.toNatClampNeg k.toNatClampNeg (defaultValue .int) n.toNatClampNeg j hj
    rw [hF, hTh] at this
    exact this
  have hin : Jvm.Free.Multi.innerC (G.2.1 0) k.toNatClampNeg (defaultValue .int) = arrV (G.2.1 0) k.toNatClampNeg (fun _ => defaultValue .int) := by
    rw [← arrV_new]; rfl
  have hH1 : jH G (ks ++ (22, n.toNatClampNeg) :: List.replicate n.toNatClampNeg (20, k.toNatClampNeg), I, L, R) s F.heap locs := by
    refine jH_grow hH (by simp; omega) (by rw [f1]; simp; omega) hold (fun j q hq => ?_)
    cases j with
    | zero =>
      have hq : (22, n.toNatClampNeg) = q := by simpa using hq
      subst hq
      rw [jent_ii, Nat.add_zero, ha]
      show F.heap[H.size]? = some (vp_cell _ _)
      rw [f2, vp_cell_q, jouter]
      refine congrArg some (jarr_congr (fun i hi => ?_))
      rw [hR0 i hi, if_pos hi]
      show va_rf (some (H.size + 1 + i)) = va_rf (some (jad G (ks.length + 1 + i)))
      rw [jad_lt (by omega), hs]
      congr 2
      omega
    | succ j =>
      have hq : (List.replicate n.toNatClampNeg (20, k.toNatClampNeg))[j]? = some q := by simpa using hq
      have hj : j < n.toNatClampNeg := by have := (List.getElem?_eq_some_iff.mp hq).1; simpa using this
      rw [List.getElem?_replicate, if_pos hj] at hq
      have hq : (20, k.toNatClampNeg) = q := by simpa using hq
      subst hq
      rw [jent_i, show ks.length + (j + 1) = ks.length + 1 + j by omega, hI j hj, jad_lt (by omega)]
      show F.heap[G.2.2.1 + (ks.length + 1 + j)]? = some (vp_cell _ _)
      rw [show G.2.2.1 + (ks.length + 1 + j) = H.size + 1 + j by omega, hrow j hj, hin]
      rfl
  obtain ⟨t, a1, b1⟩ := kk p e Rm s m args below meth c Z F.heap locs (cells + 1 + n.toNatClampNeg) (slots + n.toNatClampNeg + n.toNatClampNeg * k.toNatClampNeg) lsA hC ⟨hR.1, hR.2.1, by have := hR.2.2.1; omega, by have := hR.2.2.2; omega⟩ hH1 hl hZ F rfl X'
  refine ⟨t, step t ?_, b1⟩
  have e : T.heap.size = jad G ks.length := by rw [hT, ha]
  rw [e]
  exact a1
theorem jr_multi_l {index : Nat} {n k : Int32} {N K n0 : Nat} (hlk : Cond.classLink y.cls index "[[J" ∈ jWS) (harr : Cond.arrayClass .long ∈ jWS) (hn : ¬ n < 0) (hk : ¬ k < 0) (hN : n.toNatClampNeg = N) (hK : k.toNatClampNeg = K) (hb1 : N ≤ 1000) (hb2 : K ≤ 1000) (hlen : ks.length = n0) (hlt : n0 + N < jN) (hI : ∀ j, j < N → L (n0 + 1 + j) = fun _ => 0) (hR0 : ∀ j, j < N → R n0 j = some (n0 + 1 + j)) (hdg : decode cc pc = .ok (.multianewarray index 2, 4))
    (kk : J G l y cc nL d mc ms (pc + 4) ls (.ref n0 :: st) (ks ++ (23, N) :: List.replicate N (21, K), I, L, R) Q) : J G l y cc nL d (1 + N + mc) (N + N * K + ms) pc ls (.int k :: .int n :: st) (ks, I, L, R) Q := by
  subst hlen
  subst hN
  subst hK
  intro p e Rm s m args below meth c Z H locs cells slots lsA hC hR hH hl hZ
  have hts := hC.2.2.2.2.1
  have hKK := hC.2.2.2.2.2.1.1
  have hs : H.size = G.2.2.1 + ks.length := hH.1.2.2.1 (show ks.length < jN by omega)
  have hjN : jN = 93 := rfl
  have ha : jad G ks.length = H.size := by rw [jad_lt (by omega), hs]
  intro T hT Xs
  obtain ⟨vm₁, cA, comp, -, fA, fC, hO, -, X', step⟩ := Xs.multianewarray2F hC.1 hC.2.2.2.1 (ty := .long) (hts _ hlk) (hC.2.2.2.2.2.1.2.2.2.2 (.arrayOver (.array .long)) (by decide +kernel)) (hts _ harr) (g := F0 m pc lsA (.int k :: .int n :: st.map (jcv G))) rfl (by rw [hC.2.1]; exact hdg) rfl hn hk (by omega) (by show k.toNatClampNeg * 8 ≤ _; omega) (by omega) rfl rfl (by have := hR.2.2.1; omega) (by have := hR.2.2.2; omega)
  have hcO : cA = G.2.1 3 := Option.some.inj (fA.symm.trans (hKK.2 3 _ rfl).2)
  have hcI : comp = G.2.1 1 := Option.some.inj (fC.symm.trans (hKK.2 1 _ rfl).2)
  subst hcO
  subst hcI
  generalize hF : Jvm.Free.Multi.fill (T.setVm vm₁) (G.2.1 3) (G.2.1 1) n.toNatClampNeg k.toNatClampNeg (defaultValue .long) n.toNatClampNeg = F at X' step
  have hTh : (T.setVm vm₁).heap = H := hT
  obtain ⟨f1, f2, -, -⟩ := Jvm.Free.Multi.fill_facts (T.setVm vm₁) (G.2.1 3) (G.2.1 1) n.toNatClampNeg k.toNatClampNeg (defaultValue .long) n.toNatClampNeg
  rw [hF, hTh] at f1 f2
  have hold : ∀ x : Nat, x < H.size → F.heap[x]? = H[x]? := fun x hx => by
    have := Jvm.Free.Multi.fill_old (T.setVm vm₁) (G.2.1 3) (G.2.1 1) n.toNatClampNeg k.toNatClampNeg (defaultValue .long) (a := x) (by rw [hTh]; exact hx) n.toNatClampNeg
    rw [hF, hTh] at this
    exact this
  have hrow : ∀ j : Nat, j < n.toNatClampNeg → F.heap[H.size + 1 + j]? = some (Jvm.Free.Multi.innerC (G.2.1 1) k.toNatClampNeg (defaultValue .long)) := fun j hj => by
    have := Jvm.Free.Multi.fill_inner (T.setVm vm₁) (G.2.1 3) (G.2.1 1) n.toNatClampNeg k.toNatClampNeg (defaultValue .long) n.toNatClampNeg j hj
    rw [hF, hTh] at this
    exact this
  have hin : Jvm.Free.Multi.innerC (G.2.1 1) k.toNatClampNeg (defaultValue .long) = arrV (G.2.1 1) k.toNatClampNeg (fun _ => defaultValue .long) := by
    rw [← arrV_new]; rfl
  have hH1 : jH G (ks ++ (23, n.toNatClampNeg) :: List.replicate n.toNatClampNeg (21, k.toNatClampNeg), I, L, R) s F.heap locs := by
    refine jH_grow hH (by simp; omega) (by rw [f1]; simp; omega) hold (fun j q hq => ?_)
    cases j with
    | zero =>
      have hq : (23, n.toNatClampNeg) = q := by simpa using hq
      subst hq
      rw [jent_ll, Nat.add_zero, ha]
      show F.heap[H.size]? = some (vp_cell _ _)
      rw [f2, vp_cell_q, jouter]
      refine congrArg some (jarr_congr (fun i hi => ?_))
      rw [hR0 i hi, if_pos hi]
      show va_rf (some (H.size + 1 + i)) = va_rf (some (jad G (ks.length + 1 + i)))
      rw [jad_lt (by omega), hs]
      congr 2
      omega
    | succ j =>
      have hq : (List.replicate n.toNatClampNeg (21, k.toNatClampNeg))[j]? = some q := by simpa using hq
      have hj : j < n.toNatClampNeg := by have := (List.getElem?_eq_some_iff.mp hq).1; simpa using this
      rw [List.getElem?_replicate, if_pos hj] at hq
      have hq : (21, k.toNatClampNeg) = q := by simpa using hq
      subst hq
      rw [jent_l, show ks.length + (j + 1) = ks.length + 1 + j by omega, hI j hj, jad_lt (by omega)]
      show F.heap[G.2.2.1 + (ks.length + 1 + j)]? = some (vp_cell _ _)
      rw [show G.2.2.1 + (ks.length + 1 + j) = H.size + 1 + j by omega, hrow j hj, hin]
      rfl
  obtain ⟨t, a1, b1⟩ := kk p e Rm s m args below meth c Z F.heap locs (cells + 1 + n.toNatClampNeg) (slots + n.toNatClampNeg + n.toNatClampNeg * k.toNatClampNeg) lsA hC ⟨hR.1, hR.2.1, by have := hR.2.2.1; omega, by have := hR.2.2.2; omega⟩ hH1 hl hZ F rfl X'
  refine ⟨t, step t ?_, b1⟩
  have e : T.heap.size = jad G ks.length := by rw [hT, ha]
  rw [e]
  exact a1
end JNM

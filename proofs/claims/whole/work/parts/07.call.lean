/-! a method by its contract over the abstract world; calls -/
def jRoom (d mc ms : Nat) : Room := { frames := d, cells := mc, slots := ms, locals := 40 * d }
def jwd (y : MethodName) (cc : ByteArray) (nL : Nat) (rt : Option FieldType) : List Cond := Cond.code y cc nL rt :: jWS
def jP (G : jG) (av : List Value) (w : jW) : Array Value → State → Prop := va_Pc (av.map (jcv G)) (fun U => jE G U ∧ jIn G w U.heap)
def jQ (G : jG) (Q : Option Value → jW → Prop) : Array Value → State → Outcome → State → Prop := fun _ st oc t => (∃ (v : Option Value) (w' : jW), oc = .returned (v.map (jcv G)) ∧ Q v w' ∧ jIn G w' t.heap) ∧ va_F (jA G) st t
/-- THE CONTRACT: method y, called with av in the world w, returns, and Q holds of its answer and the world then -/
def jCall (G : jG) (l : Launch) (y : MethodName) (cc : ByteArray) (nL : Nat) (rt : Option FieldType) (d mc ms : Nat) (av : List Value) (w : jW) (Q : Option Value → jW → Prop) : Prop :=
  Met l y (jwd y cc nL rt) (jRoom d mc ms) (jP G av w) (jQ G Q) mc ms (jA G)
def jnar (rt : Option FieldType) (v : Option Value) : Prop := (rt = none ∧ v = none) ∨ (rt = some .int ∧ ∃ x, v = some (.int x)) ∨ (rt = some .long ∧ ∃ x, v = some (.long x)) ∨ (rt = some .boolean ∧ (v = some (.int 0) ∨ v = some (.int 1)))
def jargs : List Value → List (Option Value)
  | [] => []
  | v :: r => if v.category = 2 then some v :: none :: jargs r else some v :: jargs r
theorem jlv_none (G : jG) (n : Nat) : ∀ i, jlv G i (List.replicate n none) = [] := by
  induction n with
  | zero => intro i; rfl
  | succ n ih => intro i; rw [List.replicate_succ]; exact ih (i + 1)
theorem jlv_args (G : jG) (n : Nat) : ∀ (av : List Value) (i : Nat), jlv G i (jargs av ++ List.replicate n none) = lv_args i (av.map (jcv G))
  | [], i => jlv_none G n i
  | v :: r, i => by
    by_cases h : v.category = 2
    · simp only [jargs, h, if_true, List.cons_append, jlv, List.map_cons, lv_args, jcv_cat]
      rw [jlv_args G n r (i + 1 + 1)]
    · simp only [jargs, h, if_false, List.cons_append, jlv, List.map_cons, lv_args, jcv_cat]
      rw [jlv_args G n r (i + 1)]
theorem jsl_len (G : jG) : ∀ av : List Value, (lg_sl (av.map (jcv G))).length = (lg_sl av).length
  | [] => rfl
  | v :: r => by
    have h := jsl_len G r
    unfold lg_sl at h ⊢
    rw [List.map_cons, List.flatMap_cons, List.flatMap_cons, List.length_append, List.length_append, h, jcv_cat]
    by_cases hc : v.category = 2 <;> simp [hc]
theorem jNw_over {ty : FieldType} {s U : State} (hW : s.WarmedH U.vm) (hZ : va_Nw (.arrayOver ty) s) : va_Nw (.arrayOver ty) U := by
  have h : (Cond.arrayOver ty).before #[] (s.setVm U.vm) = true := by rw [Cond.arrayOver_setVmC hW.alike]; exact hZ
  exact h
theorem jE_at {G : jG} {s U : State} {H : Heap} {locs : List Loc} (hE : jE G s) (hS : va_S (jA G) s.heap H locs) (hU : U.heap = H) (hW : s.WarmedH U.vm) : jE G U := by
  obtain ⟨h1, h2, h3, h4, h5⟩ := hE
  refine ⟨va_K.moved hW.alike h1, by rw [hU]; exact Nat.le_trans h2 hS.1, fun r hr => ?_, fun q hq => ?_, fun w hw => ?_⟩
  · rw [hU]
    exact ((h3 r hr).moved hW.alike).kept hS.2.1
  · rw [hU]
    exact ((h4 q hq).moved hW.alike).kept hS.2.1
  · have h6 := h5 w hw
    simp only [jNest, List.mem_cons, List.not_mem_nil, or_false] at hw
    rcases hw with rfl | rfl | rfl | rfl | rfl | rfl | rfl <;> first | exact va_Nw.warmM hW h6 | exact jNw_over hW h6
theorem jE_calling {G : jG} {U : State} {g : JFrame} {mk : MethodId} {a : Array Value} (hE : jE G U) : jE G (U.calling g mk a) := by
  obtain ⟨h1, h2, h3, h4, h5⟩ := hE
  refine ⟨va_K.moved (u := U) (U := U.calling g mk a) (Vm.Alike.refl U.vm) h1, h2, fun r hr => va_T.moved (u := U) (U := U.calling g mk a) (Vm.Alike.refl U.vm) (h3 r hr), fun q hq => va_Z.moved (u := U) (U := U.calling g mk a) (Vm.Alike.refl U.vm) (h4 q hq), fun w hw => ?_⟩
  have h6 := h5 w hw
  simp only [jNest, List.mem_cons, List.not_mem_nil, or_false] at hw
  rcases hw with rfl | rfl | rfl | rfl | rfl | rfl | rfl <;> first | exact va_Nw.same rfl (rfl : U.vm = (U.calling g mk a).vm) h6 | exact h6
theorem jP_blind (G : jG) (av : List Value) (w : jW) : FrameBlind (jP G av w) := fun _ _ _ _ h => ⟨h.1, jE_calling h.2.1, h.2.2⟩
section JC
variable {G : jG} {l : Launch} {y : MethodName} {cc : ByteArray} {nL d mc ms pc : Nat} {ls : List (Option Value)} {st : List Value} {w : jW} {Q : Option Value → jW → Prop} {rt : Option FieldType} {av : List Value}
theorem jCall_of {n0 : Nat} (hy : plainName y.cls = true) (hls : jargs av ++ List.replicate n0 none = ls) (hn : (lg_sl av).length ≤ nL) (k : J G l y cc nL d mc ms 0 ls [] w (fun v w' => jnar rt v ∧ Q v w')) : jCall G l y cc nL rt d mc ms av w Q := by
  refine Met.ofW (cc := cc) (maxL := nL) (ret := rt) hy rfl ?_
  intro p e s m args below meth c s₁ B hml hv
  obtain ⟨rfl, hE, hI⟩ := hv
  have hts0 := atoms_spec (ws := jwd y cc nL rt) B.pre
  have hown : s.vm.findClass y.cls = some m.cls := findClass_of_methodNamed B.named
  have hlocks := B.notSynchronized
  have hr := B.returns
  have hl := lv_entry (av.map (jcv G)) (n := nL) (by rw [jsl_len]; exact hn)
  rw [lg_entry_eq]
  generalize (lg_sl (av.map (jcv G)) ++ List.replicate (nL - (lg_sl (av.map (jcv G))).length) Slot.unset).toArray = lsA at hl ⊢
  refine k p e _ s m _ below meth c _ s.heap [] 0 0 lsA ⟨B.exec, B.bytes, hml, hown, fun w h => hts0 w (List.mem_cons_of_mem _ h), hE, fun hi => (name_of_methodNamed B.named B.method).1.trans hi⟩ ⟨Nat.le_refl _, Nat.le_refl _, Nat.le_of_eq (Nat.zero_add _), Nat.le_of_eq (Nat.zero_add _)⟩ ⟨hI, va_S.rf⟩ (by rw [← hls, jlv_args]; exact hl) ?_
  intro v w' H' locs' cells' slots' pc' lsA' hQ h1 h2 hH' hret
  refine W.widen h1 h2 ?_
  obtain ⟨hnr, hQ⟩ := hQ
  have hq : ∀ t : State, t.heap = H' → s.WarmedH t.vm → jQ G Q ((av.map (jcv G)).toArray) s (.returned (v.map (jcv G))) t := fun t ht _ => ⟨⟨v, w', rfl, hQ, by rw [ht]; exact hH'.1⟩, hH'.2.F ht⟩
  rcases hret with ⟨rfl, hdg⟩ | ⟨x, rfl, hdg⟩ | ⟨x, rfl, hdg⟩
  · have hrt : rt = none := by
      rcases hnr with h | ⟨-, z, h⟩ | ⟨-, z, h⟩ | ⟨-, h | h⟩
      · exact h.1
      all_goals cases h
    exact W.vret B.exec B.bytes (hr.trans hrt) hq hH'.2.2.2 hdg hlocks
  · rcases hnr with ⟨-, h⟩ | ⟨h, -⟩ | ⟨-, z, h⟩ | ⟨h, h2⟩
    · cases h
    · exact W.iret B.exec B.bytes (hr.trans h) hq hH'.2.2.2 hdg hlocks
    · cases h
    · exact W.zret B.exec B.bytes (hr.trans h) (by rcases h2 with h2 | h2 <;> cases h2 <;> rfl) hq hH'.2.2.2 hdg hlocks
  · have hrt : rt = some .long := by
      rcases hnr with ⟨-, h⟩ | ⟨-, z, h⟩ | ⟨h, -⟩ | ⟨-, h | h⟩
      · cases h
      · cases h
      · exact h
      all_goals cases h
    exact W.lret B.exec B.bytes (hr.trans hrt) hq hH'.2.2.2 hdg hlocks
/-- behind a call -/
theorem jback {mc2 ms2 : Nat} {p : Program} {e : Env} {Rm : Room} {s : State} {m : MethodId} {args : Array Value} {below : List Frame} {meth : Method} {c : Code} {Z : State → Prop} {H : Heap} {locs : List Loc} {cells slots : Nat} {lsA : Array Slot} {st0 : List Value} {a : Array Value}
    (hC : jC G y cc nL p s m args meth c) (hR : jRm d (mc2 + mc) (ms2 + ms) Rm cells slots) (hS : va_S (jA G) s.heap H locs) (hl : lv_has lsA nL (jlv G 0 ls))
    (hZ : ∀ (v : Option Value) (w' : jW) (H' : Heap) (locs' : List Loc) (cells' slots' pc' : Nat) (lsA' : Array Slot), Q v w' → cells' ≤ Rm.cells → slots' ≤ Rm.slots → jH G w' s H' locs' → jRet cc pc' v → W p l e Rm s m args below meth c H' locs' cells' slots' Z (F0 m pc' lsA' (v.toList.map (jcv G))))
    (hr : va_Run p l e Rm s m args below meth c H locs cells slots mc2 ms2 (F0 m pc lsA st0) (st.map (jcv G)) (jQ G (fun v w' => J G l y cc nL d mc ms (pc + 3) ls (v.toList ++ st) w' Q) a) (jA G)) :
    W p l e Rm s m args below meth c H locs cells slots Z (F0 m pc lsA st0) := by
  intro T hT X
  obtain ⟨v, st₀, t, T', L, h0, X', hL, e1, e2, ⟨⟨v1, w1, hv, hq, hIn⟩, hz, hk⟩, stp⟩ := hr T hT X
  have hv1 : v = v1.map (jcv G) := by simpa using hv
  subst hv1
  rw [h0] at hz hk
  have hS1 : va_S (jA G) s.heap T'.heap (locs ++ L) := ⟨Nat.le_trans hS.1 (by rw [e1]; exact hz), fun q h1 h2 => by rw [e1, hk q (Nat.lt_of_lt_of_le h1 hS.1) h2]; exact hS.2.1 q h1 h2, fun q hq => by
      rcases List.mem_append.mp hq with h | h
      · exact hS.2.2 q h
      · exact hL q h⟩
  obtain ⟨t2, a1, b1⟩ := hq p e Rm s m args below meth c Z T'.heap (locs ++ L) (cells + mc2) (slots + ms2) lsA hC ⟨hR.1, hR.2.1, by have := hR.2.2.1; omega, by have := hR.2.2.2; omega⟩ ⟨by rw [e1]; exact hIn, hS1⟩ hl hZ T' rfl X'
  refine ⟨t2, stp t2 ?_, b1⟩
  rw [show (v1.map (jcv G)).toList ++ st.map (jcv G) = (v1.toList ++ st).map (jcv G) by cases v1 <;> simp]
  exact a1
theorem jcat (G : jG) (st : List Value) : ((st.map (jcv G)).map fun v => v.category) = st.map fun v => v.category := by
  rw [List.map_map]
  exact List.map_congr_left (fun v _ => jcv_cat G v)
/-- an instance method, called from own by its entry -/
def jVm (own : String) (index : Nat) (y2 : MethodName) (cc2 : ByteArray) (nL2 : Nat) (rt2 : Option FieldType) (n : Nat) : Prop :=
  Cond.methodLink own index y2 ∈ jWS ∧ Cond.instanceMethod y2 ∈ jWS ∧ Cond.selects y2.cls y2 y2 ∈ jWS ∧ Cond.initialized y2.cls ∈ jWS ∧ Cond.code y2 cc2 nL2 rt2 ∈ jWS ∧ (y2.cls ≠ "java/lang/invoke/MethodHandle" ∧ y2.cls ≠ "java/lang/invoke/VarHandle") ∧ (parseMethodDescriptor y2.desc).map (fun d => d.parameters.length) = some n ∧ nL2 ≤ 20
def jSm (own : String) (index : Nat) (y2 : MethodName) (cc2 : ByteArray) (nL2 : Nat) (rt2 : Option FieldType) (n : Nat) : Prop :=
  Cond.methodLink own index y2 ∈ jWS ∧ Cond.static y2 ∈ jWS ∧ Cond.initialized y2.cls ∈ jWS ∧ Cond.code y2 cc2 nL2 rt2 ∈ jWS ∧ (y2.cls ≠ "java/lang/invoke/MethodHandle" ∧ y2.cls ≠ "java/lang/invoke/VarHandle") ∧ (parseMethodDescriptor y2.desc).map (fun d => d.parameters.length) = some n ∧ nL2 ≤ 20
def jSn (own : String) (index : Nat) (y2 : MethodName) (host : String) (cc2 : ByteArray) (nL2 : Nat) (rt2 : Option FieldType) (n : Nat) : Prop :=
  Cond.methodLinkNest own index y2 host ∈ jNest ∧ Cond.static y2 ∈ jWS ∧ Cond.initialized y2.cls ∈ jWS ∧ Cond.code y2 cc2 nL2 rt2 ∈ jWS ∧ (y2.cls ≠ "java/lang/invoke/MethodHandle" ∧ y2.cls ≠ "java/lang/invoke/VarHandle") ∧ (parseMethodDescriptor y2.desc).map (fun d => d.parameters.length) = some n ∧ nL2 ≤ 20
theorem jwd_good {y2 : MethodName} {cc2 : ByteArray} {nL2 : Nat} {rt2 : Option FieldType} (h : Cond.code y2 cc2 nL2 rt2 ∈ jWS) : GoodIn jWS (jwd y2 cc2 nL2 rt2) := by
  intro x hx
  rcases List.mem_cons.mp hx with rfl | hx
  · exact ⟨h, jWS_good h⟩
  · exact ⟨hx, jWS_good hx⟩
theorem jr_callV {index n r ci mc2 ms2 nL2 : Nat} {y2 : MethodName} {cc2 : ByteArray} {rt2 : Option FieldType} {N : Nat} {stk : List Value} (hm : jVm y.cls index y2 cc2 nL2 rt2 n) (hst : stk = av.reverse ++ .ref r :: st) (hn : av.length = n) (hk : w.1[r]? = some (ci, N)) (h20 : ci < 20) (hcl : (vwCl[ci]?).map (fun q => q.1) = some y2.cls) (hroom : (st.map fun v => v.category).sum ≤ 8) (hdg : decode cc pc = .ok (.invokevirtual index, 3))
    (h : jCall G l y2 cc2 nL2 rt2 d mc2 ms2 (.ref r :: av) w (fun v w' => J G l y cc nL (d + 1) mc ms (pc + 3) ls (v.toList ++ st) w' Q)) : J G l y cc nL (d + 1) (mc2 + mc) (ms2 + ms) pc ls stk w Q := by
  intro p e Rm s m args below meth c Z H locs cells slots lsA hC hR hH hl hZ
  subst hst
  obtain ⟨w1, w2, w3, w4, w5, w6, w7, w8⟩ := hm
  have hts := hC.2.2.2.2.1
  cases hq : vwCl[ci]? with
  | none => rw [hq] at hcl; cases hcl
  | some q =>
    rw [hq] at hcl
    have hqn : q.1 = y2.cls := by simpa using hcl
    have he := jws_get (G := G) (w := w) hk
    rw [jent_obj h20] at he
    have hrecv := va_recv hC.2.2.2.2.2.1.1 hH.1.1 hq he
    rw [hqn] at hrecv
    refine jback (mc2 := mc2) (ms2 := ms2) hC hR hH.2 hl hZ (va_runV (n := n) (b := jad G r) (As := av.map (jcv G)) (Ts := jWS) (C := y2.cls) (bytes := cc2) (maxL := nL2) (ret := rt2) ⟨hC.1, hC.2.1, hC.2.2.1, hC.2.2.2.1, hts⟩ h ⟨callB_of n hts (jwd_good w5) rfl rfl rfl (hts _ w4) (hts _ w1) ⟨w6.1, w6.2, w7⟩ ⟨hR.1, ?_⟩, hts _ w2, hts _ w3⟩
      ⟨jP_blind G _ w, hrecv, fun U hU hW => ⟨by rfl, jE_at hC.2.2.2.2.2.1 hH.2 hU hW, by rw [hU]; exact hH.1⟩⟩ rfl (by rw [List.length_map]; exact hn) hl.1 ?_ ?_ hdg ⟨?_, ?_⟩)
    · have := hR.2.1
      show 8 + (nL2 + 11) + 40 * d ≤ Rm.locals
      omega
    · show (av.reverse ++ .ref r :: st).map (jcv G) = _
      simp [jcv]
    · show 2 * 0 + _ ≤ 8
      rw [jcat]
      omega
    · have := hR.2.2.1; omega
    · have := hR.2.2.2; omega
theorem jr_callS {index n mc2 ms2 nL2 : Nat} {y2 : MethodName} {cc2 : ByteArray} {rt2 : Option FieldType} {stk : List Value} (hm : jSm y.cls index y2 cc2 nL2 rt2 n) (hst : stk = av.reverse ++ st) (hn : av.length = n) (hroom : (st.map fun v => v.category).sum ≤ 8) (hdg : decode cc pc = .ok (.invokestatic index, 3))
    (h : jCall G l y2 cc2 nL2 rt2 d mc2 ms2 av w (fun v w' => J G l y cc nL (d + 1) mc ms (pc + 3) ls (v.toList ++ st) w' Q)) : J G l y cc nL (d + 1) (mc2 + mc) (ms2 + ms) pc ls stk w Q := by
  intro p e Rm s m args below meth c Z H locs cells slots lsA hC hR hH hl hZ
  subst hst
  obtain ⟨w1, w2, w4, w5, w6, w7, w8⟩ := hm
  have hts := hC.2.2.2.2.1
  refine jback (mc2 := mc2) (ms2 := ms2) hC hR hH.2 hl hZ (va_runS (n := n) (As := av.map (jcv G)) (Ts := jWS) (bytes := cc2) (maxL := nL2) (ret := rt2) ⟨hC.1, hC.2.1, hC.2.2.1, hC.2.2.2.1, hts⟩ h ⟨callB_of n hts (jwd_good w5) rfl rfl rfl (hts _ w4) (hts _ w1) ⟨w6.1, w6.2, w7⟩ ⟨hR.1, ?_⟩, hts _ w2⟩
    ⟨jP_blind G _ w, fun U hU hW => ⟨by rfl, jE_at hC.2.2.2.2.2.1 hH.2 hU hW, by rw [hU]; exact hH.1⟩⟩ rfl (by rw [List.length_map]; exact hn) hl.1 ?_ ?_ hdg ⟨?_, ?_⟩)
  · have := hR.2.1
    show 8 + (nL2 + 11) + 40 * d ≤ Rm.locals
    omega
  · show (av.reverse ++ st).map (jcv G) = _
    simp
  · show 2 * 0 + _ ≤ 8
    rw [jcat]
    omega
  · have := hR.2.2.1; omega
  · have := hR.2.2.2; omega
theorem jr_callSN {index n mc2 ms2 nL2 : Nat} {y2 : MethodName} {host : String} {cc2 : ByteArray} {rt2 : Option FieldType} {stk : List Value} (hm : jSn y.cls index y2 host cc2 nL2 rt2 n) (hst : stk = av.reverse ++ st) (hn : av.length = n) (hroom : (st.map fun v => v.category).sum ≤ 8) (hdg : decode cc pc = .ok (.invokestatic index, 3))
    (h : jCall G l y2 cc2 nL2 rt2 d mc2 ms2 av w (fun v w' => J G l y cc nL (d + 1) mc ms (pc + 3) ls (v.toList ++ st) w' Q)) : J G l y cc nL (d + 1) (mc2 + mc) (ms2 + ms) pc ls stk w Q := by
  intro p e Rm s m args below meth c Z H locs cells slots lsA hC hR hH hl hZ
  subst hst
  obtain ⟨w1, w2, w4, w5, w6, w7, w8⟩ := hm
  have hts := hC.2.2.2.2.1
  refine jback (mc2 := mc2) (ms2 := ms2) hC hR hH.2 hl hZ (va_runSN (n := n) (As := av.map (jcv G)) (Ts := jWS) (bytes := cc2) (maxL := nL2) (ret := rt2) ⟨hC.1, hC.2.1, hC.2.2.1, hC.2.2.2.1, hts⟩ h ⟨va_cnB n hts (jwd_good w5) rfl rfl rfl (hC.2.2.2.2.2.1.2.2.2.2 _ w1) (hts _ w4) ⟨w6.1, w6.2, w7⟩ ⟨hR.1, ?_⟩, hts _ w2, trivial⟩
    ⟨jP_blind G _ w, fun U hU hW => ⟨by rfl, jE_at hC.2.2.2.2.2.1 hH.2 hU hW, by rw [hU]; exact hH.1⟩⟩ rfl (by rw [List.length_map]; exact hn) hl.1 ?_ ?_ hdg ⟨?_, ?_⟩)
  · have := hR.2.1
    show 8 + (nL2 + 11) + 40 * d ≤ Rm.locals
    omega
  · show (av.reverse ++ st).map (jcv G) = _
    simp
  · show 2 * 0 + _ ≤ 8
    rw [jcat]
    omega
  · have := hR.2.2.1; omega
  · have := hR.2.2.2; omega
end JC

/-! the main phase: the world's shape is fixed (jKS, jR0), the store is (I, L) -/
theorem Met_mono {l : Launch} {y : MethodName} {ws : List Cond} {rm : Room} {Pc : Array Value → State → Prop} {Qc Qd : Array Value → State → Outcome → State → Prop} {mc ms : Nat} {free : Addr → Prop} (h : Met l y ws rm Pc Qc mc ms free) (hq : ∀ a s o t, Qc a s o t → Qd a s o t) : Met l y ws rm Pc Qd mc ms free := by
  intro p e h1 h2 h3 s m args below h4 h5 h6 h7
  obtain ⟨n, o, a1, a2, a3, a4, a5⟩ := h p e h1 h2 h3 s m args below h4 h5 h6 h7
  exact ⟨n, o, a1, a2, a3, hq _ _ _ _ a4, a5⟩
theorem jCall_mono {G : jG} {l : Launch} {y : MethodName} {cc : ByteArray} {nL : Nat} {rt : Option FieldType} {d mc ms : Nat} {av : List Value} {w : jW} {Q Q' : Option Value → jW → Prop} (h : jCall G l y cc nL rt d mc ms av w Q) (hq : ∀ v w', Q v w' → Q' v w') : jCall G l y cc nL rt d mc ms av w Q' :=
  Met_mono h (fun _ _ _ _ h => ⟨by obtain ⟨⟨v, w', a, b, c⟩, -⟩ := h; exact ⟨v, w', a, hq _ _ b, c⟩, h.2⟩)
abbrev jM : Type := MethodName × ByteArray × Nat × Option FieldType
def cM (G : jG) (l : Launch) (M : jM) (d : Nat) (av : List Value) (I : jS) (L : jL) (Q : Option Value → jS → jL → Prop) : Prop := jCall G l M.1 M.2.1 M.2.2.1 M.2.2.2 d 0 0 av (jKS, I, L, jR0) (fun v w' => ∃ I' L', w' = (jKS, I', L', jR0) ∧ Q v I' L')
def cI (G : jG) (l : Launch) (M : jM) (d : Nat) (av : List Value) (I : jS) (L : jL) (Q : Int32 → jS → jL → Prop) : Prop := cM G l M d av I L (fun v I' L' => ∃ r, v = some (.int r) ∧ Q r I' L')
def cJ (G : jG) (l : Launch) (M : jM) (d : Nat) (av : List Value) (I : jS) (L : jL) (Q : Int64 → jS → jL → Prop) : Prop := cM G l M d av I L (fun v I' L' => ∃ r, v = some (.long r) ∧ Q r I' L')
def cV (G : jG) (l : Launch) (M : jM) (d : Nat) (av : List Value) (I : jS) (L : jL) (Q : jS → jL → Prop) : Prop := cM G l M d av I L (fun v I' L' => v = none ∧ Q I' L')
abbrev jQm (rt : Option FieldType) (Q : Option Value → jS → jL → Prop) : Option Value → jW → Prop := fun v w' => jnar rt v ∧ ∃ I' L', w' = (jKS, I', L', jR0) ∧ Q v I' L'
theorem jQm_of {G : jG} {l : Launch} {y : MethodName} {cc : ByteArray} {nL d mc ms pc : Nat} {ls : List (Option Value)} {st : List Value} {w : jW} {rt : Option FieldType} {Q : Option Value → jS → jL → Prop} (h : J G l y cc nL d mc ms pc ls st w (jQm rt Q)) : J G l y cc nL d mc ms pc ls st w (fun v w' => jnar rt v ∧ (fun v w' => ∃ I' L', w' = (jKS, I', L', jR0) ∧ Q v I' L') v w') := h
theorem cM_mono {G : jG} {l : Launch} {M : jM} {d : Nat} {av : List Value} {I : jS} {L : jL} {Q Q' : Option Value → jS → jL → Prop} (h : cM G l M d av I L Q) (hq : ∀ v I' L', Q v I' L' → Q' v I' L') : cM G l M d av I L Q' :=
  jCall_mono h (fun v w' => by rintro ⟨I', L', e, h⟩; exact ⟨I', L', e, hq v I' L' h⟩)
theorem cI_mono {G : jG} {l : Launch} {M : jM} {d : Nat} {av : List Value} {I : jS} {L : jL} {Q Q' : Int32 → jS → jL → Prop} (h : cI G l M d av I L Q) (hq : ∀ v I' L', Q v I' L' → Q' v I' L') : cI G l M d av I L Q' :=
  cM_mono h (fun v I' L' => by rintro ⟨r, e, h⟩; exact ⟨r, e, hq r I' L' h⟩)
theorem cJ_mono {G : jG} {l : Launch} {M : jM} {d : Nat} {av : List Value} {I : jS} {L : jL} {Q Q' : Int64 → jS → jL → Prop} (h : cJ G l M d av I L Q) (hq : ∀ v I' L', Q v I' L' → Q' v I' L') : cJ G l M d av I L Q' :=
  cM_mono h (fun v I' L' => by rintro ⟨r, e, h⟩; exact ⟨r, e, hq r I' L' h⟩)
theorem cV_mono {G : jG} {l : Launch} {M : jM} {d : Nat} {av : List Value} {I : jS} {L : jL} {Q Q' : jS → jL → Prop} (h : cV G l M d av I L Q) (hq : ∀ I' L', Q I' L' → Q' I' L') : cV G l M d av I L Q' :=
  cM_mono h (fun v I' L' => by rintro ⟨e, h⟩; exact ⟨e, hq I' L' h⟩)
section JU
variable {G : jG} {l : Launch} {y : MethodName} {cc : ByteArray} {nL d d2 mc ms pc : Nat} {ls ls' : List (Option Value)} {st : List Value} {w : jW} {Q : Option Value → jW → Prop} {M : jM} {av : List Value} {I : jS} {L : jL}
theorem cI_use {Qf : Int32 → jS → jL → Prop} (h : cI G l M d av I L Qf) (k : ∀ r I' L', Qf r I' L' → J G l y cc nL d2 mc ms pc ls (.int r :: st) (jKS, I', L', jR0) Q) : jCall G l M.1 M.2.1 M.2.2.1 M.2.2.2 d 0 0 av (jKS, I, L, jR0) (fun v w' => J G l y cc nL d2 mc ms pc ls (v.toList ++ st) w' Q) :=
  jCall_mono h (fun v w' => by rintro ⟨I', L', rfl, r, rfl, h⟩; exact k r I' L' h)
theorem cJ_use {Qf : Int64 → jS → jL → Prop} (h : cJ G l M d av I L Qf) (k : ∀ r I' L', Qf r I' L' → J G l y cc nL d2 mc ms pc ls (.long r :: st) (jKS, I', L', jR0) Q) : jCall G l M.1 M.2.1 M.2.2.1 M.2.2.2 d 0 0 av (jKS, I, L, jR0) (fun v w' => J G l y cc nL d2 mc ms pc ls (v.toList ++ st) w' Q) :=
  jCall_mono h (fun v w' => by rintro ⟨I', L', rfl, r, rfl, h⟩; exact k r I' L' h)
theorem cV_use {Qf : jS → jL → Prop} (h : cV G l M d av I L Qf) (k : ∀ I' L', Qf I' L' → J G l y cc nL d2 mc ms pc ls st (jKS, I', L', jR0) Q) : jCall G l M.1 M.2.1 M.2.2.1 M.2.2.2 d 0 0 av (jKS, I, L, jR0) (fun v w' => J G l y cc nL d2 mc ms pc ls (v.toList ++ st) w' Q) :=
  jCall_mono h (fun v w' => by rintro ⟨I', L', rfl, rfl, h⟩; exact k I' L' h)
def jsub (a b : List (Option Value)) : Prop := ∀ (k : Nat) (v : Value), a[k]? = some (some v) → b[k]? = some (some v)
theorem jsub_nil {b : List (Option Value)} : jsub [] b := fun k v h => by simp at h
theorem jsub_some {a b : List (Option Value)} {v : Value} (h : jsub a b) : jsub (some v :: a) (some v :: b) := fun k u hk => by
  cases k with
  | zero => exact hk
  | succ k => exact h k u hk
theorem jsub_none {a b : List (Option Value)} {x : Option Value} (h : jsub a b) : jsub (none :: a) (x :: b) := fun k u hk => by
  cases k with
  | zero => cases hk
  | succ k => exact h k u hk
theorem J.sub (h : J G l y cc nL d mc ms pc ls' st w Q) (hs : jsub ls' ls) : J G l y cc nL d mc ms pc ls st w Q := by
  intro p e Rm s m args below meth c Z H locs cells slots lsA hC hR hH hl hZ
  refine h p e Rm s m args below meth c Z H locs cells slots lsA hC hR hH ⟨hl.1, hl.2.1, fun q hq => ?_⟩ hZ
  obtain ⟨k, v, e1, hk⟩ := jlv_of G _ 0 q hq
  rw [e1]
  exact hl.2.2 _ (jlv_in G ls 0 k v (hs k v hk))
end JU
theorem jlt {i : Int32} {n : Nat} (h : vp_in i n) : i.toNatClampNeg < n := Nat.not_le.mp fun q => h (Or.inr q)
theorem jtl {x v : Int32} {lo : Int} (c : x = v) (h : ¬ v.toInt < lo) : ¬ x.toInt < lo := by rw [c]; exact h
theorem jtg {x v : Int32} {hi : Int} (c : x = v) (h : ¬ hi < v.toInt) : ¬ hi < x.toInt := by rw [c]; exact h
theorem jtb {x v : Int32} {lo off : Int} {offs : Array Int} (c : x = v) (h : offs[(v.toInt - lo).toNat]? = some off) : offs[(x.toInt - lo).toNat]? = some off := by rw [c]; exact h
theorem jlk {x v : Int32} {off d : Int} {ps : List (Int × Int)} (c : x = v) (h : Op.lookupswitch.offset ps d v.toInt = off) : Op.lookupswitch.offset ps d x.toInt = off := by rw [c]; exact h
def isIce (r : Nat) : Prop := r = 25 ∨ r = 32 ∨ r = 38 ∨ r = 52
theorem ks_ice0 {r : Nat} (h : isIce r) : jKS[r]? = some (5, 3) := by rcases h with rfl | rfl | rfl | rfl <;> rfl
theorem ks_ice1 {r : Nat} (h : isIce r) : jKS[r + 1]? = some (20, 24) := by rcases h with rfl | rfl | rfl | rfl <;> rfl
theorem ks_ice2 {r : Nat} (h : isIce r) : jKS[r + 2]? = some (20, 24) := by rcases h with rfl | rfl | rfl | rfl <;> rfl
theorem rr_ice0 {r : Nat} (h : isIce r) : jR0 r 0 = some (r + 1) := by rcases h with rfl | rfl | rfl | rfl <;> rfl
theorem rr_ice1 {r : Nat} (h : isIce r) : jR0 r 1 = some (r + 2) := by rcases h with rfl | rfl | rfl | rfl <;> rfl
theorem rr_row2 {j : Nat} (h : j < 9) : jR0 2 j = some (3 + j) := by
  match j, h with
  | 0, _ => rfl
  | 1, _ => rfl
  | 2, _ => rfl
  | 3, _ => rfl
  | 4, _ => rfl
  | 5, _ => rfl
  | 6, _ => rfl
  | 7, _ => rfl
  | 8, _ => rfl
  | n + 9, h => exact absurd h (by omega)
theorem rr_row41 {j : Nat} (h : j < 7) : jR0 41 j = some (42 + j) := by
  match j, h with
  | 0, _ => rfl
  | 1, _ => rfl
  | 2, _ => rfl
  | 3, _ => rfl
  | 4, _ => rfl
  | 5, _ => rfl
  | 6, _ => rfl
  | n + 7, h => exact absurd h (by omega)
theorem rr_row61 {j : Nat} (h : j < 6) : jR0 61 j = some (62 + j) := by
  match j, h with
  | 0, _ => rfl
  | 1, _ => rfl
  | 2, _ => rfl
  | 3, _ => rfl
  | 4, _ => rfl
  | 5, _ => rfl
  | n + 6, h => exact absurd h (by omega)
theorem ks_row2 {j : Nat} (h : j < 9) : jKS[3 + j]? = some (20, 24) := by
  match j, h with
  | 0, _ => rfl
  | 1, _ => rfl
  | 2, _ => rfl
  | 3, _ => rfl
  | 4, _ => rfl
  | 5, _ => rfl
  | 6, _ => rfl
  | 7, _ => rfl
  | 8, _ => rfl
  | n + 9, h => exact absurd h (by omega)
theorem ks_row41 {j : Nat} (h : j < 7) : jKS[42 + j]? = some (20, 24) := by
  match j, h with
  | 0, _ => rfl
  | 1, _ => rfl
  | 2, _ => rfl
  | 3, _ => rfl
  | 4, _ => rfl
  | 5, _ => rfl
  | 6, _ => rfl
  | n + 7, h => exact absurd h (by omega)
theorem ks_row61 {j : Nat} (h : j < 6) : jKS[62 + j]? = some (21, 60) := by
  match j, h with
  | 0, _ => rfl
  | 1, _ => rfl
  | 2, _ => rfl
  | 3, _ => rfl
  | 4, _ => rfl
  | 5, _ => rfl
  | n + 6, h => exact absurd h (by omega)
section JV
variable {G : jG} {l : Launch} {y : MethodName} {cc : ByteArray} {nL d mc ms pc : Nat} {ls : List (Option Value)} {st : List Value} {ks : jK} {I : jS} {L : jL} {R : jR} {Q : Option Value → jW → Prop}
theorem jv_geti {index ci N f r : Nat} {ft : FieldType} {fin : Bool} {v : Int32} (hv : I r f = v) (hF : jF y.cls index ci N f 0 ft fin) (hk : ks[r]? = some (ci, N)) (hdg : decode cc pc = .ok (.getfield index, 3))
    (k : J G l y cc nL d mc ms (pc + 3) ls (.int v :: st) (ks, I, L, R) Q) : J G l y cc nL d mc ms pc ls (.ref r :: st) (ks, I, L, R) Q := by
  subst hv; exact jr_geti hF hk hdg k
theorem jv_iaload {r n j : Nat} {i v : Int32} (hv : I r j = v) (hj : i.toNatClampNeg = j) (hk : ks[r]? = some (20, n)) (hdg : decode cc pc = .ok (.iaload, 1)) (hin : vp_in i n)
    (k : J G l y cc nL d mc ms (pc + 1) ls (.int v :: st) (ks, I, L, R) Q) : J G l y cc nL d mc ms pc ls (.int i :: .ref r :: st) (ks, I, L, R) Q := by
  subst hv; exact jr_iaload hj hk hdg hin k
theorem jv_baload {r n j : Nat} {i v : Int32} (hv : I r j = v) (hj : i.toNatClampNeg = j) (hk : ks[r]? = some (24, n)) (hdg : decode cc pc = .ok (.baload, 1)) (hin : vp_in i n)
    (k : J G l y cc nL d mc ms (pc + 1) ls (.int v :: st) (ks, I, L, R) Q) : J G l y cc nL d mc ms pc ls (.int i :: .ref r :: st) (ks, I, L, R) Q := by
  subst hv; exact jr_baload hj hk hdg hin k
theorem jv_laload {r n j : Nat} {i : Int32} {v : Int64} (hv : L r j = v) (hj : i.toNatClampNeg = j) (hk : ks[r]? = some (21, n)) (hdg : decode cc pc = .ok (.laload, 1)) (hin : vp_in i n)
    (k : J G l y cc nL d mc ms (pc + 1) ls (.long v :: st) (ks, I, L, R) Q) : J G l y cc nL d mc ms pc ls (.int i :: .ref r :: st) (ks, I, L, R) Q := by
  subst hv; exact jr_laload hj hk hdg hin k
end JV
theorem u2n {I : jS} {r i r' j : Nat} {x : Int32} (h : r' ≠ r) : u2 I r i x r' j = I r' j := by rw [u2_ne r' h]
theorem u2e {I : jS} {r i : Nat} {x : Int32} : u2 I r i x r i = x := by simp [u2, upd]
theorem u2i {I : jS} {r i j : Nat} {x : Int32} (h : j ≠ i) : u2 I r i x r j = I r j := by simp [u2, upd, h]
theorem u2Ln {I : jL} {r i r' j : Nat} {x : Int64} (h : r' ≠ r) : u2L I r i x r' j = I r' j := by rw [u2L_ne r' h]
theorem u2Le {I : jL} {r i : Nat} {x : Int64} : u2L I r i x r i = x := by simp [u2L, vp_updL]
theorem u2Li {I : jL} {r i j : Nat} {x : Int64} (h : j ≠ i) : u2L I r i x r j = I r j := by simp [u2L, vp_updL, h]
def jushr (x y : Int32) : Int32 := (x.toUInt32 >>> (y.toUInt32 &&& Int32.toUInt32 31)).toInt32
/-! System.arraycopy -/
def jcok (sp dp n : Int32) (n0 n1 : Nat) : Prop := ¬ sp < 0 ∧ ¬ dp < 0 ∧ ¬ n < 0 ∧ sp.toNatClampNeg + n.toNatClampNeg ≤ n0 ∧ dp.toNatClampNeg + n.toNatClampNeg ≤ n1
def jcpy (I : jS) (a b : Nat) (sp dp n : Int32) : jS := fun r => if r = b then va_cpy (I a) (I r) sp.toNatClampNeg dp.toNatClampNeg n.toNatClampNeg else I r
def jcpyL (I : jL) (a b : Nat) (sp dp n : Int32) : jL := fun r => if r = b then va_cpy (I a) (I r) sp.toNatClampNeg dp.toNatClampNeg n.toNatClampNeg else I r
def jcw (own : String) (index : Nat) : Prop := Cond.methodLink own index arraycopyName ∈ jWS ∧ Cond.native arraycopyName ∈ jWS ∧ Cond.static arraycopyName ∈ jWS ∧ Cond.initialized "java/lang/System" ∈ jWS
section JX
variable {G : jG} {l : Launch} {y : MethodName} {cc : ByteArray} {nL d mc ms pc : Nat} {ls : List (Option Value)} {st : List Value} {ks : jK} {I : jS} {L : jL} {R : jR} {Q : Option Value → jW → Prop}
theorem jr_copyi {index a b n0 n1 : Nat} {sp dp n : Int32} (hw : jcw y.cls index) (ha : ks[a]? = some (20, n0)) (hb : ks[b]? = some (20, n1)) (hok : jcok sp dp n n0 n1) (hN : ¬ ks.length < jN) (hroom : (st.map fun v => v.category).sum ≤ 8) (hdg : decode cc pc = .ok (.invokestatic index, 3))
    (k : J G l y cc nL (d + 1) mc ms (pc + 3) ls st (ks, jcpy I a b sp dp n, L, R) Q) : J G l y cc nL (d + 1) mc ms pc ls (.int n :: .int dp :: .ref b :: .int sp :: .ref a :: st) (ks, I, L, R) Q := by
  intro p e Rm s m args below meth c Z H locs cells slots lsA hC hR hH hl hZ
  obtain ⟨w1, w2, w3, w4⟩ := hw
  have hts := hC.2.2.2.2.1
  have ea := jws_get (G := G) (w := (ks, I, L, R)) ha
  have eb := jws_get (G := G) (w := (ks, I, L, R)) hb
  rw [jent_i] at ea eb
  obtain ⟨h1, h2, h3, h4, h5⟩ := hok
  have hfr := hR.1
  have hlo := hR.2.1
  refine va_copyi hC.1 hC.2.1 (by rw [hC.2.2.1]; exact hl.1.symm) hC.2.2.2.1 (hts _ w1) (hts _ w2) (hts _ w3) (hts _ w4) hC.2.2.2.2.2.1.1 hH.1.1 hH.1.2.1 hH.2 a b 0 0 ea eb rfl rfl rfl h1 h2 h3 h4 h5 (fun _ _ => rfl) (by omega) ?_ hdg (fun H1 locs1 hP hD hS => ?_)
  · show ((List.map (jcv G) st).map fun v => v.category).sum + (7 + 11) ≤ Rm.locals
    rw [jcat]
    omega
  · have hset : (jws G (ks, I, L, R)).set b (jad G b, .inl (G.2.1 0, n1, .inl (va_cpy (I a) (I b) sp.toNatClampNeg dp.toNatClampNeg n.toNatClampNeg))) = jws G (ks, jcpy I a b sp dp n, L, R) := by
      have h := jws_set (G := G) (I := I) (I' := jcpy I a b sp dp n) (L := L) (L' := L) (R := R) (R' := R) hb (fun x hx => by simp [jcpy, hx]) (fun _ _ => rfl) (fun _ _ => rfl)
      rw [jent_i] at h
      rw [← h]
      simp [jcpy]
    rw [show ((ks, I, L, R) : jW).2.1 a = I a from rfl, show ((ks, I, L, R) : jW).2.1 b = I b from rfl, hset] at hP hD
    exact k p e Rm s m args below meth c Z H1 locs1 cells slots lsA hC hR ⟨⟨hP, hD, fun h => absurd h hN, hH.1.2.2.2⟩, hS⟩ hl hZ
theorem jr_copyl {index a b n0 n1 : Nat} {sp dp n : Int32} (hw : jcw y.cls index) (ha : ks[a]? = some (21, n0)) (hb : ks[b]? = some (21, n1)) (hok : jcok sp dp n n0 n1) (hN : ¬ ks.length < jN) (hroom : (st.map fun v => v.category).sum ≤ 8) (hdg : decode cc pc = .ok (.invokestatic index, 3))
    (k : J G l y cc nL (d + 1) mc ms (pc + 3) ls st (ks, I, jcpyL L a b sp dp n, R) Q) : J G l y cc nL (d + 1) mc ms pc ls (.int n :: .int dp :: .ref b :: .int sp :: .ref a :: st) (ks, I, L, R) Q := by
  intro p e Rm s m args below meth c Z H locs cells slots lsA hC hR hH hl hZ
  obtain ⟨w1, w2, w3, w4⟩ := hw
  have hts := hC.2.2.2.2.1
  have ea := jws_get (G := G) (w := (ks, I, L, R)) ha
  have eb := jws_get (G := G) (w := (ks, I, L, R)) hb
  rw [jent_l] at ea eb
  obtain ⟨h1, h2, h3, h4, h5⟩ := hok
  have hfr := hR.1
  have hlo := hR.2.1
  refine va_copyl hC.1 hC.2.1 (by rw [hC.2.2.1]; exact hl.1.symm) hC.2.2.2.1 (hts _ w1) (hts _ w2) (hts _ w3) (hts _ w4) hC.2.2.2.2.2.1.1 hH.1.1 hH.1.2.1 hH.2 a b 1 1 ea eb rfl rfl rfl h1 h2 h3 h4 h5 (fun _ _ => rfl) (by omega) ?_ hdg (fun H1 locs1 hP hD hS => ?_)
  · show ((List.map (jcv G) st).map fun v => v.category).sum + (7 + 11) ≤ Rm.locals
    rw [jcat]
    omega
  · have hset : (jws G (ks, I, L, R)).set b (jad G b, .inl (G.2.1 1, n1, .inr (.inl (va_cpy (L a) (L b) sp.toNatClampNeg dp.toNatClampNeg n.toNatClampNeg)))) = jws G (ks, I, jcpyL L a b sp dp n, R) := by
      have h := jws_set (G := G) (I := I) (I' := I) (L := L) (L' := jcpyL L a b sp dp n) (R := R) (R' := R) hb (fun _ _ => rfl) (fun x hx => by simp [jcpyL, hx]) (fun _ _ => rfl)
      rw [jent_l] at h
      rw [← h]
      simp [jcpyL]
    rw [show ((ks, I, L, R) : jW).2.2.1 a = L a from rfl, show ((ks, I, L, R) : jW).2.2.1 b = L b from rfl, hset] at hP hD
    exact k p e Rm s m args below meth c Z H1 locs1 cells slots lsA hC hR ⟨⟨hP, hD, fun h => absurd h hN, hH.1.2.2.2⟩, hS⟩ hl hZ
def jmx (own : String) (index : Nat) : Prop := Cond.methodLink own index Lib.Math.max.name ∈ jWS ∧ Cond.static Lib.Math.max.name ∈ jWS ∧ Cond.initialized "java/lang/Math" ∈ jWS ∧ Cond.code Lib.Math.max.name Lib.Math.max.code 2 (some .int) ∈ jWS
def jmn (own : String) (index : Nat) : Prop := Cond.methodLink own index Lib.Math.min.name ∈ jWS ∧ Cond.static Lib.Math.min.name ∈ jWS ∧ Cond.initialized "java/lang/Math" ∈ jWS ∧ Cond.code Lib.Math.min.name Lib.Math.min.code 2 (some .int) ∈ jWS
theorem jr_mmax {index : Nat} {x y0 : Int32} (hw : jmx y.cls index) (hroom : (st.map fun v => v.category).sum ≤ 8) (hdg : decode cc pc = .ok (.invokestatic index, 3))
    (k : J G l y cc nL (d + 1) mc ms (pc + 3) ls (.int (if x < y0 then y0 else x) :: st) (ks, I, L, R) Q) : J G l y cc nL (d + 1) mc ms pc ls (.int y0 :: .int x :: st) (ks, I, L, R) Q := by
  intro p e Rm s m args below meth c Z H locs cells slots lsA hC hR hH hl hZ
  obtain ⟨w1, w2, w3, w4⟩ := hw
  have hts := hC.2.2.2.2.1
  have hfr := hR.1
  have hlo := hR.2.1
  have hc1 := hR.2.2.1
  have hc2 := hR.2.2.2
  refine va_mmax hC.1 hC.2.1 (by rw [hC.2.2.1]; exact hl.1.symm) hC.2.2.2.1 (hts _ w1) (hts _ w2) (hts _ w3) (hts _ w4) (by omega) ?_ (by omega) (by omega) hdg (k p e Rm s m args below meth c Z H locs cells slots lsA hC hR hH hl hZ)
  show ((List.map (jcv G) st).map fun v => v.category).sum + 13 ≤ Rm.locals
  rw [jcat]
  omega
theorem jr_mmin {index : Nat} {x y0 : Int32} (hw : jmn y.cls index) (hroom : (st.map fun v => v.category).sum ≤ 8) (hdg : decode cc pc = .ok (.invokestatic index, 3))
    (k : J G l y cc nL (d + 1) mc ms (pc + 3) ls (.int (if y0 < x then y0 else x) :: st) (ks, I, L, R) Q) : J G l y cc nL (d + 1) mc ms pc ls (.int y0 :: .int x :: st) (ks, I, L, R) Q := by
  intro p e Rm s m args below meth c Z H locs cells slots lsA hC hR hH hl hZ
  obtain ⟨w1, w2, w3, w4⟩ := hw
  have hts := hC.2.2.2.2.1
  have hfr := hR.1
  have hlo := hR.2.1
  have hc1 := hR.2.2.1
  have hc2 := hR.2.2.2
  refine va_mmin hC.1 hC.2.1 (by rw [hC.2.2.1]; exact hl.1.symm) hC.2.2.2.1 (hts _ w1) (hts _ w2) (hts _ w3) (hts _ w4) (by omega) ?_ (by omega) (by omega) hdg (k p e Rm s m args below meth c Z H locs cells slots lsA hC hR hH hl hZ)
  show ((List.map (jcv G) st).map fun v => v.category).sum + 13 ≤ Rm.locals
  rw [jcat]
  omega
end JX

/-! fields, arrays, calls, over the abstract world -/
def u2 (I : jS) (r i : Nat) (x : Int32) : jS := fun r' => if r' = r then upd (I r') i x else I r'
def u2L (L : jL) (r i : Nat) (x : Int64) : jL := fun r' => if r' = r then vp_updL (L r') i x else L r'
def u2R (R : jR) (r i : Nat) (x : Option Nat) : jR := fun r' => if r' = r then va_up (R r') i x else R r'
theorem u2_ne {I : jS} {r i : Nat} {x : Int32} : ∀ z, z ≠ r → u2 I r i x z = I z := fun z h => by simp [u2, h]
theorem u2L_ne {I : jL} {r i : Nat} {x : Int64} : ∀ z, z ≠ r → u2L I r i x z = I z := fun z h => by simp [u2L, h]
theorem u2R_ne {I : jR} {r i : Nat} {x : Option Nat} : ∀ z, z ≠ r → u2R I r i x z = I z := fun z h => by simp [u2R, h]
theorem u2_self {I : jS} {r i : Nat} {x : Int32} : u2 I r i x r = upd (I r) i x := by simp [u2]
theorem u2L_self {I : jL} {r i : Nat} {x : Int64} : u2L I r i x r = vp_updL (I r) i x := by simp [u2L]
theorem u2R_self {I : jR} {r i : Nat} {x : Option Nat} : u2R I r i x r = va_up (I r) i x := by simp [u2R]
/-- a class of the world: its number, name, fields, their types -/
def jCl (ci : Nat) (C : String) (T : u_T) (N : Nat) (ty : Nat → FieldType) : Prop := vwCl[ci]? = some (C, T, N) ∧ (∀ w ∈ u_ws C T N, w ∈ jWS) ∧ (∀ k, k < N → parseFieldDescriptor (T k).2.2.1 = some (ty k)) ∧ ∀ a, a < N → ∀ b, b < N → a ≠ b → (T a).2.1 ≠ (T b).2.1
/-- a field: from which class by which entry, of which class of how many fields, which, its type by number, its type, whether final -/
def jF (own : String) (index ci N f tc : Nat) (ft : FieldType) (fin : Bool) : Prop := ∃ (C : String) (T : u_T) (ty : Nat → FieldType), jCl ci C T N ty ∧ f < N ∧ ci < 20 ∧ jty ci f = tc ∧ ty f = ft ∧ Cond.fieldLink own index (T f).1 (T f).2.1 (T f).2.2.1 ∈ jWS ∧ (T f).2.2.2 = fin ∧ (T f).1 = C
theorem jent_obj {G : jG} {I : jS} {L : jL} {R : jR} {r ci N : Nat} (h : ci < 20) : jent G I L R r (ci, N) = .inr (ci, (List.range N).map (jsv G I L R r ci)) := by
  simp only [jent]
  rw [if_neg (by omega), if_neg (by omega), if_neg (by omega), if_neg (by omega), if_neg (by omega)]
theorem jsv_at {G : jG} {I : jS} {L : jL} {R : jR} {r ci N f : Nat} (h : f < N) : ((List.range N).map (jsv G I L R r ci))[f]? = some (jsv G I L R r ci f) := by
  rw [List.getElem?_map, List.getElem?_range h]
  rfl
section JM
variable {G : jG} {l : Launch} {y : MethodName} {cc : ByteArray} {nL d mc ms pc : Nat} {ls : List (Option Value)} {st : List Value} {ks : jK} {I : jS} {L : jL} {R : jR} {Q : Option Value → jW → Prop}
theorem jr_getv {index ci N f tc r : Nat} {ft : FieldType} {fin : Bool} {u : Value} (hF : jF y.cls index ci N f tc ft fin) (hk : ks[r]? = some (ci, N)) (hdg : decode cc pc = .ok (.getfield index, 3)) (hu : jsv G I L R r ci f = jcv G u)
    (k : J G l y cc nL d mc ms (pc + 3) ls (u :: st) (ks, I, L, R) Q) : J G l y cc nL d mc ms pc ls (.ref r :: st) (ks, I, L, R) Q := by
  obtain ⟨C, T, ty, hc, hf, h20, htc, hft, hlk, hfin, hT⟩ := hF
  intro p e Rm s m args below meth c Z H locs cells slots lsA hC hR hH hl hZ
  have he := jws_get (G := G) (w := (ks, I, L, R)) hk
  rw [jent_obj h20] at he
  refine va_get (D := G.1) (cl := vwCl) (ws := jws G (ks, I, L, R)) (fs := (List.range N).map (jsv G I L R r ci)) hC.1 hC.2.1 hC.2.2.2.2.1 hc.2.1 hC.2.2.2.1 hC.2.2.2.2.2.1.1 hH.1.1 r he hc.1 f hf (hC.2.2.2.2.1 _ hlk) (fun _ h => h) (jsv_at hf) hdg ?_
  rw [hu]
  exact k p e Rm s m args below meth c Z H locs cells slots lsA hC hR hH hl hZ
theorem jr_geti {index ci N f r : Nat} {ft : FieldType} {fin : Bool} (hF : jF y.cls index ci N f 0 ft fin) (hk : ks[r]? = some (ci, N)) (hdg : decode cc pc = .ok (.getfield index, 3))
    (k : J G l y cc nL d mc ms (pc + 3) ls (.int (I r f) :: st) (ks, I, L, R) Q) : J G l y cc nL d mc ms pc ls (.ref r :: st) (ks, I, L, R) Q := by
  refine jr_getv hF hk hdg ?_ k
  obtain ⟨C, T, ty, hc, hf, h20, htc, -⟩ := hF
  simp [jsv, htc, jcv]
theorem jr_geta {index ci N f r q : Nat} {ft : FieldType} {fin : Bool} (hF : jF y.cls index ci N f 2 ft fin) (hk : ks[r]? = some (ci, N)) (hq : R r f = some q) (hdg : decode cc pc = .ok (.getfield index, 3))
    (k : J G l y cc nL d mc ms (pc + 3) ls (.ref q :: st) (ks, I, L, R) Q) : J G l y cc nL d mc ms pc ls (.ref r :: st) (ks, I, L, R) Q := by
  refine jr_getv hF hk hdg ?_ k
  obtain ⟨C, T, ty, hc, hf, h20, htc, -⟩ := hF
  simp [jsv, htc, jcv, hq, va_rf]
/-- a cell written: what the world is then -/
theorem jH_put {w w' : jW} {s : State} {H H1 : Heap} {locs : List Loc} {r j : Nat} {q : Nat × Nat} {e' : va_E} (hH : jH G w s H locs) (hr : w.1[r]? = some q) (hset : (jws G w).set r (jad G r, e') = jws G w') (hlen : w'.1 = w.1) (hat : va_at G.1 vwCl (jad G r, e') H1) (hz : H1.size = H.size) (oq : ∀ x, x ≠ jad G r → H1[x]? = H[x]?) : jH G w' s H1 (locs ++ [⟨jad G r, j⟩]) := by
  obtain ⟨⟨hP, hD, hsz, hl⟩, hS⟩ := hH
  have he := jws_get (G := G) (w := w) hr
  refine ⟨⟨?_, ?_, ?_, ?_⟩, hS.put hz oq (hD.2 r _ he)⟩
  · rw [← hset]; exact hP.set hD he hat oq
  · rw [← hset]; exact hD.set he
  · rw [hlen]; exact fun h => hz.trans (hsz h)
  · rw [hlen]; exact hl
theorem jsv_set {I' : jS} {L' : jL} {R' : jR} {r ci N f : Nat} {v : Value} (hf : jsv G I' L' R' r ci f = v) (ho : ∀ i, i ≠ f → jsv G I' L' R' r ci i = jsv G I L R r ci i) : ((List.range N).map (jsv G I L R r ci)).set f v = (List.range N).map (jsv G I' L' R' r ci) := by
  apply List.ext_getElem?
  intro k
  by_cases hk : k = f
  · subst hk
    by_cases hl : k < N
    · rw [List.getElem?_set_self (by simpa using hl), jsv_at hl, hf]
    · rw [List.getElem?_eq_none (by simp; omega), List.getElem?_eq_none (by simp; omega)]
  · rw [List.getElem?_set_ne (Ne.symm hk)]
    by_cases hl : k < N
    · rw [jsv_at hl, jsv_at hl, ho k hk]
    · rw [List.getElem?_eq_none (by simp; omega), List.getElem?_eq_none (by simp; omega)]
theorem jr_putv {index ci N f tc r : Nat} {ft : FieldType} {u : Value} {I' : jS} {L' : jL} {R' : jR} (hF : jF y.cls index ci N f tc ft false) (hk : ks[r]? = some (ci, N)) (hdg : decode cc pc = .ok (.putfield index, 3)) (hn : narrow ft (jcv G u) = jcv G u) (hfit : fits ft (jcv G u) = true)
    (hI : ∀ x, x ≠ r → I' x = I x) (hL : ∀ x, x ≠ r → L' x = L x) (hR' : ∀ x, x ≠ r → R' x = R x) (hv : jsv G I' L' R' r ci f = jcv G u) (ho : ∀ i, i ≠ f → jsv G I' L' R' r ci i = jsv G I L R r ci i)
    (k : J G l y cc nL d mc ms (pc + 3) ls st (ks, I', L', R') Q) : J G l y cc nL d mc ms pc ls (u :: .ref r :: st) (ks, I, L, R) Q := by
  obtain ⟨C, T, ty, hc, hf, h20, htc, hft, hlk, hfin, hT⟩ := hF
  intro p e Rm s m args below meth c Z H locs cells slots lsA hC hR hH hl hZ
  have he := jws_get (G := G) (w := (ks, I, L, R)) hk
  rw [jent_obj h20] at he
  obtain ⟨hx, hb, hml, hown, hts, hE, hnm⟩ := hC
  have hK := hE.1
  have hap := va_apart (own := y.cls) hts hc.2.1 ty hc.2.2.1 hc.2.2.2 hK hc.1
  obtain ⟨r0, h1, cell, q1, q2, q3, q4⟩ := hH.1.1 r _ he
  have hr : r0 = (C, T, N) := Option.some.inj (h1.symm.trans hc.1)
  subst hr
  obtain ⟨hS, hfc, kC, hkC, hkind⟩ := hK.1 ci _ hc.1
  obtain ⟨cf, kf, fi, fd, hi, hsl⟩ := hS f hf
  have hlay := hts _ (hc.2.1 _ (u_in_lay hf))
  unfold u_lay at hlay
  rw [if_neg (by rw [hfin]; decide)] at hlay
  have hst := (u_facts hfc hkC (u_lays hts hc.2.1 hf) hi).1
  have h6 := u_store hfc hkC hkind hlay hi (hc.2.2.1 f hf) (by rw [hft]; exact hn) (by rw [hft]; exact hfit)
  refine W.putK hx hb (f := fd) ⟨hown, hts _ hlk, ⟨_, _, _, hi⟩, hst⟩ (by rw [q2]; exact h6) q1 q3 (by rw [hsl]; exact k2_hasslot (q4 f hf)) rfl rfl hdg fun H' e1 e2 e3 => ?_
  rw [hsl] at e1 ⊢
  refine k p e Rm s m args below meth c Z H' _ cells slots lsA ⟨hx, hb, hml, hown, hts, hE, hnm⟩ hR (jH_put (w' := (ks, I', L', R')) (e' := .inr (ci, (List.range N).map (jsv G I' L' R' r ci))) hH hk ?_ rfl ?_ e2 e3) hl hZ
  · rw [← jent_obj h20]
    exact jws_set hk hI hL hR'
  · refine ⟨_, hc.1, ?_⟩
    rw [← jsv_set (I := I) (L := L) (R := R) hv ho]
    exact t_OB.to (V := updV (vp_V ((List.range N).map (jsv G I L R r ci))) f (jcv G u)) ⟨_, e1, q2, q3, t_set q4 hap hf _⟩ (fun j _ => vp_updV_set (by simpa using hf) _ j)
theorem jr_puti {index ci N f r : Nat} {x : Int32} (hF : jF y.cls index ci N f 0 .int false) (hk : ks[r]? = some (ci, N)) (hdg : decode cc pc = .ok (.putfield index, 3))
    (k : J G l y cc nL d mc ms (pc + 3) ls st (ks, u2 I r f x, L, R) Q) : J G l y cc nL d mc ms pc ls (.int x :: .ref r :: st) (ks, I, L, R) Q := by
  refine jr_putv (u := .int x) hF hk hdg rfl rfl u2_ne (fun _ _ => rfl) (fun _ _ => rfl) ?_ (fun i hi => ?_) k
  · obtain ⟨C, T, ty, hc, hf, h20, htc, -⟩ := hF
    simp [jsv, htc, jcv, u2_self, upd]
  · simp [jsv, u2_self, upd, hi]
theorem jr_putz {index ci N f r : Nat} {x : Int32} (hF : jF y.cls index ci N f 0 .boolean false) (hk : ks[r]? = some (ci, N)) (hx : x = 0 ∨ x = 1) (hdg : decode cc pc = .ok (.putfield index, 3))
    (k : J G l y cc nL d mc ms (pc + 3) ls st (ks, u2 I r f x, L, R) Q) : J G l y cc nL d mc ms pc ls (.int x :: .ref r :: st) (ks, I, L, R) Q := by
  refine jr_putv (u := .int x) hF hk hdg (by rcases hx with rfl | rfl <;> rfl) (by rcases hx with rfl | rfl <;> rfl) u2_ne (fun _ _ => rfl) (fun _ _ => rfl) ?_ (fun i hi => ?_) k
  · obtain ⟨C, T, ty, hc, hf, h20, htc, -⟩ := hF
    simp [jsv, htc, jcv, u2_self, upd]
  · simp [jsv, u2_self, upd, hi]
theorem jent_i {r n : Nat} : jent G I L R r (20, n) = .inl (G.2.1 0, n, .inl (I r)) := rfl
theorem jent_l {r n : Nat} : jent G I L R r (21, n) = .inl (G.2.1 1, n, .inr (.inl (L r))) := rfl
theorem jent_ii {r n : Nat} : jent G I L R r (22, n) = .inl (G.2.1 2, n, .inr (.inr (.inr (.inr (fun i => (R r i).map (jad G)))))) := rfl
theorem jent_ll {r n : Nat} : jent G I L R r (23, n) = .inl (G.2.1 3, n, .inr (.inr (.inr (.inr (fun i => (R r i).map (jad G)))))) := rfl
theorem jent_z {r n : Nat} : jent G I L R r (24, n) = .inl (G.2.1 4, n, .inl (I r)) := rfl
theorem jr_iaload {r n j : Nat} {i : Int32} (hj : i.toNatClampNeg = j) (hk : ks[r]? = some (20, n)) (hdg : decode cc pc = .ok (.iaload, 1)) (hin : vp_in i n)
    (k : J G l y cc nL d mc ms (pc + 1) ls (.int (I r j) :: st) (ks, I, L, R) Q) : J G l y cc nL d mc ms pc ls (.int i :: .ref r :: st) (ks, I, L, R) Q := by
  subst hj
  intro p e Rm s m args below meth c Z H locs cells slots lsA hC hR hH hl hZ
  have he := jws_get (G := G) (w := (ks, I, L, R)) hk
  rw [jent_i] at he
  exact va_iald hC.1 hC.2.1 hC.2.2.2.2.2.1.1 hH.1.1 r 0 he rfl hin hdg (k p e Rm s m args below meth c Z H locs cells slots lsA hC hR hH hl hZ)
theorem jr_baload {r n j : Nat} {i : Int32} (hj : i.toNatClampNeg = j) (hk : ks[r]? = some (24, n)) (hdg : decode cc pc = .ok (.baload, 1)) (hin : vp_in i n)
    (k : J G l y cc nL d mc ms (pc + 1) ls (.int (I r j) :: st) (ks, I, L, R) Q) : J G l y cc nL d mc ms pc ls (.int i :: .ref r :: st) (ks, I, L, R) Q := by
  subst hj
  intro p e Rm s m args below meth c Z H locs cells slots lsA hC hR hH hl hZ
  have he := jws_get (G := G) (w := (ks, I, L, R)) hk
  rw [jent_z] at he
  exact va_zald hC.1 hC.2.1 hC.2.2.2.2.2.1.1 hH.1.1 r 4 he rfl hin hdg (k p e Rm s m args below meth c Z H locs cells slots lsA hC hR hH hl hZ)
theorem jr_laload {r n j : Nat} {i : Int32} (hj : i.toNatClampNeg = j) (hk : ks[r]? = some (21, n)) (hdg : decode cc pc = .ok (.laload, 1)) (hin : vp_in i n)
    (k : J G l y cc nL d mc ms (pc + 1) ls (.long (L r j) :: st) (ks, I, L, R) Q) : J G l y cc nL d mc ms pc ls (.int i :: .ref r :: st) (ks, I, L, R) Q := by
  subst hj
  intro p e Rm s m args below meth c Z H locs cells slots lsA hC hR hH hl hZ
  have he := jws_get (G := G) (w := (ks, I, L, R)) hk
  rw [jent_l] at he
  exact va_lald hC.1 hC.2.1 hC.2.2.2.2.2.1.1 hH.1.1 r 1 he rfl hin hdg (k p e Rm s m args below meth c Z H locs cells slots lsA hC hR hH hl hZ)
theorem jr_aaload_i {r n q j : Nat} {i : Int32} (hj : i.toNatClampNeg = j) (hk : ks[r]? = some (22, n)) (hdg : decode cc pc = .ok (.aaload, 1)) (hin : vp_in i n) (hq : R r j = some q)
    (k : J G l y cc nL d mc ms (pc + 1) ls (.ref q :: st) (ks, I, L, R) Q) : J G l y cc nL d mc ms pc ls (.int i :: .ref r :: st) (ks, I, L, R) Q := by
  subst hj
  intro p e Rm s m args below meth c Z H locs cells slots lsA hC hR hH hl hZ
  have he := jws_get (G := G) (w := (ks, I, L, R)) hk
  rw [jent_ii] at he
  have hlt : i.toNatClampNeg < n := Nat.not_le.mp fun q => hin (Or.inr q)
  refine W.aald (v := .ref (jad G q)) (ty := .array .int) hC.1 hC.2.1 (hH.1.1 r _ he) ((hC.2.2.2.2.2.1.1.2 2 _ rfl).1 n (fun j => va_rf ((R r j).map (jad G)))) rfl (fun q => by cases q) (by show ¬ (i < 0 ∨ (arrV _ _ _).slots.size ≤ _); rw [arrV_size]; exact hin) (by show (arrV _ _ _).slots[_]? = _; rw [arrV_read _ _ hlt]; show some (va_rf ((R r i.toNatClampNeg).map (jad G))) = _; rw [hq]; rfl) rfl rfl hdg ?_
  exact k p e Rm s m args below meth c Z H locs cells slots lsA hC hR hH hl hZ
theorem jr_aaload_l {r n q j : Nat} {i : Int32} (hj : i.toNatClampNeg = j) (hk : ks[r]? = some (23, n)) (hdg : decode cc pc = .ok (.aaload, 1)) (hin : vp_in i n) (hq : R r j = some q)
    (k : J G l y cc nL d mc ms (pc + 1) ls (.ref q :: st) (ks, I, L, R) Q) : J G l y cc nL d mc ms pc ls (.int i :: .ref r :: st) (ks, I, L, R) Q := by
  subst hj
  intro p e Rm s m args below meth c Z H locs cells slots lsA hC hR hH hl hZ
  have he := jws_get (G := G) (w := (ks, I, L, R)) hk
  rw [jent_ll] at he
  have hlt : i.toNatClampNeg < n := Nat.not_le.mp fun q => hin (Or.inr q)
  refine W.aald (v := .ref (jad G q)) (ty := .array .long) hC.1 hC.2.1 (hH.1.1 r _ he) ((hC.2.2.2.2.2.1.1.2 3 _ rfl).1 n (fun j => va_rf ((R r j).map (jad G)))) rfl (fun q => by cases q) (by show ¬ (i < 0 ∨ (arrV _ _ _).slots.size ≤ _); rw [arrV_size]; exact hin) (by show (arrV _ _ _).slots[_]? = _; rw [arrV_read _ _ hlt]; show some (va_rf ((R r i.toNatClampNeg).map (jad G))) = _; rw [hq]; rfl) rfl rfl hdg ?_
  exact k p e Rm s m args below meth c Z H locs cells slots lsA hC hR hH hl hZ
/-- an old array (the script, a static one): r is 1000 and its number -/
theorem jr_oaload {r j : Nat} {i : Int32} (hj : i.toNatClampNeg = j) (hr : r < 6) (hdg : decode cc pc = .ok (.iaload, 1)) (hin : vp_in i (G.2.2.2.2 r).1)
    (k : J G l y cc nL d mc ms (pc + 1) ls (.int ((G.2.2.2.2 r).2 j) :: st) (ks, I, L, R) Q) : J G l y cc nL d mc ms pc ls (.int i :: .ref (1000 + r) :: st) (ks, I, L, R) Q := by
  subst hj
  intro p e Rm s m args below meth c Z H locs cells slots lsA hC hR hH hl hZ
  have had : jad G (1000 + r) = G.2.2.2.1 r := by unfold jad; rw [if_neg (by omega), Nat.add_sub_cancel_left]
  obtain ⟨cell, h1, h2, h3, h4, h5, h6, h7⟩ := hC.2.2.2.2.2.1.2.2.1 r hr
  have hlt : i.toNatClampNeg < (G.2.2.2.2 r).1 := Nat.not_le.mp fun q => hin (Or.inr q)
  have hbl := (Array.getElem?_eq_some_iff.mp h1).1
  refine W.iald (v := .int ((G.2.2.2.2 r).2 i.toNatClampNeg)) (a := jad G (1000 + r)) hC.1 hC.2.1 (by rw [had, hH.2.2.1 _ hbl h7]; exact h1) h2 h3 (fun z => hin (z.imp id (fun q => Nat.le_trans h4 q))) (h6 _ hlt) rfl rfl hdg ?_
  exact k p e Rm s m args below meth c Z H locs cells slots lsA hC hR hH hl hZ
theorem jr_oalen {r : Nat} (hr : r < 6) (hdg : decode cc pc = .ok (.arraylength, 1))
    (k : J G l y cc nL d mc ms (pc + 1) ls (.int (Int32.ofNat (G.2.2.2.2 r).1) :: st) (ks, I, L, R) Q) : J G l y cc nL d mc ms pc ls (.ref (1000 + r) :: st) (ks, I, L, R) Q := by
  intro p e Rm s m args below meth c Z H locs cells slots lsA hC hR hH hl hZ
  have had : jad G (1000 + r) = G.2.2.2.1 r := by unfold jad; rw [if_neg (by omega), Nat.add_sub_cancel_left]
  obtain ⟨cell, h1, h2, h3, h4, h5, h6, h7⟩ := hC.2.2.2.2.2.1.2.2.1 r hr
  have hbl := (Array.getElem?_eq_some_iff.mp h1).1
  refine W.alen (n := Int32.ofNat (G.2.2.2.2 r).1) (a := jad G (1000 + r)) hC.1 hC.2.1 (by rw [had, hH.2.2.1 _ hbl h7]; exact h1) h2 h5 rfl rfl hdg ?_
  exact k p e Rm s m args below meth c Z H locs cells slots lsA hC hR hH hl hZ
theorem jr_alen_i {r n : Nat} {v : Int32} (hk : ks[r]? = some (20, n)) (hv : Int32.ofNat n = v) (hdg : decode cc pc = .ok (.arraylength, 1))
    (k : J G l y cc nL d mc ms (pc + 1) ls (.int v :: st) (ks, I, L, R) Q) : J G l y cc nL d mc ms pc ls (.ref r :: st) (ks, I, L, R) Q := by
  intro p e Rm s m args below meth c Z H locs cells slots lsA hC hR hH hl hZ
  have he := jws_get (G := G) (w := (ks, I, L, R)) hk
  rw [jent_i] at he
  exact va_alen hC.1 hC.2.1 hC.2.2.2.2.2.1.1 hH.1.1 r 0 he rfl hv hdg (k p e Rm s m args below meth c Z H locs cells slots lsA hC hR hH hl hZ)
theorem jr_alen_l {r n : Nat} {v : Int32} (hk : ks[r]? = some (21, n)) (hv : Int32.ofNat n = v) (hdg : decode cc pc = .ok (.arraylength, 1))
    (k : J G l y cc nL d mc ms (pc + 1) ls (.int v :: st) (ks, I, L, R) Q) : J G l y cc nL d mc ms pc ls (.ref r :: st) (ks, I, L, R) Q := by
  intro p e Rm s m args below meth c Z H locs cells slots lsA hC hR hH hl hZ
  have he := jws_get (G := G) (w := (ks, I, L, R)) hk
  rw [jent_l] at he
  exact va_alen hC.1 hC.2.1 hC.2.2.2.2.2.1.1 hH.1.1 r 1 he rfl hv hdg (k p e Rm s m args below meth c Z H locs cells slots lsA hC hR hH hl hZ)
theorem jr_iastore {r n j : Nat} {i x : Int32} (hj : i.toNatClampNeg = j) (hk : ks[r]? = some (20, n)) (hdg : decode cc pc = .ok (.iastore, 1)) (hin : vp_in i n)
    (k : J G l y cc nL d mc ms (pc + 1) ls st (ks, u2 I r j x, L, R) Q) : J G l y cc nL d mc ms pc ls (.int x :: .int i :: .ref r :: st) (ks, I, L, R) Q := by
  subst hj
  intro p e Rm s m args below meth c Z H locs cells slots lsA hC hR hH hl hZ
  have he := jws_get (G := G) (w := (ks, I, L, R)) hk
  rw [jent_i] at he
  refine W.iast hC.1 hC.2.1 (hH.1.1 r _ he) ((hC.2.2.2.2.2.1.1.2 0 _ rfl).1 n (fun j => .int (I r j))) (fun q => by cases q) (by show ¬ (i < 0 ∨ (arrV _ _ _).slots.size ≤ _); rw [arrV_size]; exact hin) rfl rfl hdg fun H1 e1 z oq => ?_
  refine k p e Rm s m args below meth c Z H1 _ cells slots lsA hC hR (jH_put (w' := (ks, u2 I r i.toNatClampNeg x, L, R)) (e' := jent G (u2 I r i.toNatClampNeg x) L R r (20, n)) hH hk (jws_set hk u2_ne (fun _ _ => rfl) (fun _ _ => rfl)) rfl ?_ z oq) hl hZ
  show H1[jad G r]? = some (vp_cell _ _)
  rw [e1, vp_cell_i, vp_cell_i, arrV_store, u2_self]
  congr 2
  funext q
  by_cases hq : q = i.toNatClampNeg
  · subst hq; simp [updV, upd]
  · simp [updV, upd, hq]
theorem jr_bastore {r n j : Nat} {i x : Int32} (hj : i.toNatClampNeg = j) (hk : ks[r]? = some (24, n)) (hx : x = 0 ∨ x = 1) (hdg : decode cc pc = .ok (.bastore, 1)) (hin : vp_in i n)
    (k : J G l y cc nL d mc ms (pc + 1) ls st (ks, u2 I r j x, L, R) Q) : J G l y cc nL d mc ms pc ls (.int x :: .int i :: .ref r :: st) (ks, I, L, R) Q := by
  subst hj
  intro p e Rm s m args below meth c Z H locs cells slots lsA hC hR hH hl hZ
  have he := jws_get (G := G) (w := (ks, I, L, R)) hk
  rw [jent_z] at he
  refine W.zast hC.1 hC.2.1 (hH.1.1 r _ he) ((hC.2.2.2.2.2.1.1.2 4 _ rfl).1 n (fun j => .int (I r j))) (fun q => by cases q) (by show ¬ (i < 0 ∨ (arrV _ _ _).slots.size ≤ _); rw [arrV_size]; exact hin) rfl rfl hdg fun H1 e1 z oq => ?_
  have hnx : narrow .boolean (.int x) = .int x := by rcases hx with rfl | rfl <;> rfl
  rw [hnx] at e1
  refine k p e Rm s m args below meth c Z H1 _ cells slots lsA hC hR (jH_put (w' := (ks, u2 I r i.toNatClampNeg x, L, R)) (e' := jent G (u2 I r i.toNatClampNeg x) L R r (24, n)) hH hk (jws_set hk u2_ne (fun _ _ => rfl) (fun _ _ => rfl)) rfl ?_ z oq) hl hZ
  show H1[jad G r]? = some (vp_cell _ _)
  rw [e1, vp_cell_i, vp_cell_i, arrV_store, u2_self]
  congr 2
  funext q
  by_cases hq : q = i.toNatClampNeg
  · subst hq; simp [updV, upd]
  · simp [updV, upd, hq]
theorem jr_lastore {r n j : Nat} {i : Int32} {x : Int64} (hj : i.toNatClampNeg = j) (hk : ks[r]? = some (21, n)) (hdg : decode cc pc = .ok (.lastore, 1)) (hin : vp_in i n)
    (k : J G l y cc nL d mc ms (pc + 1) ls st (ks, I, u2L L r j x, R) Q) : J G l y cc nL d mc ms pc ls (.long x :: .int i :: .ref r :: st) (ks, I, L, R) Q := by
  subst hj
  intro p e Rm s m args below meth c Z H locs cells slots lsA hC hR hH hl hZ
  have he := jws_get (G := G) (w := (ks, I, L, R)) hk
  rw [jent_l] at he
  refine W.last hC.1 hC.2.1 (hH.1.1 r _ he) ((hC.2.2.2.2.2.1.1.2 1 _ rfl).1 n (fun j => .long (L r j))) (fun q => by cases q) (by show ¬ (i < 0 ∨ (arrV _ _ _).slots.size ≤ _); rw [arrV_size]; exact hin) rfl rfl hdg fun H1 e1 z oq => ?_
  refine k p e Rm s m args below meth c Z H1 _ cells slots lsA hC hR (jH_put (w' := (ks, I, u2L L r i.toNatClampNeg x, R)) (e' := jent G I (u2L L r i.toNatClampNeg x) R r (21, n)) hH hk (jws_set hk (fun _ _ => rfl) u2L_ne (fun _ _ => rfl)) rfl ?_ z oq) hl hZ
  show H1[jad G r]? = some (vp_cell _ _)
  rw [e1, vp_cell_l, vp_cell_l, arrV_store, u2L_self]
  congr 2
  funext q
  by_cases hq : q = i.toNatClampNeg
  · subst hq; simp [updV, vp_updL]
  · simp [updV, vp_updL, hq]
/-- a static array -/
theorem jr_getstatic {index : Nat} {C n : String} {r : Nat} (hs : (C, n, r) ∈ jStat) (hlk : Cond.fieldLink y.cls index C n "[I" ∈ jWS) (hdg : decode cc pc = .ok (.getstatic index, 3))
    (k : J G l y cc nL d mc ms (pc + 3) ls (.ref r :: st) (ks, I, L, R) Q) : J G l y cc nL d mc ms pc ls st (ks, I, L, R) Q := by
  intro p e Rm s m args below meth c Z H locs cells slots lsA hC hR hH hl hZ
  exact va_gets hC.1 hC.2.1 (hC.2.2.2.2.2.1.2.2.2.1 _ hs) hH.2 hC.2.2.2.1 (hC.2.2.2.2.1 _ hlk) (fun _ h => h) hdg (k p e Rm s m args below meth c Z H locs cells slots lsA hC hR hH hl hZ)
end JM

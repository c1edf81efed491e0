
/-! the abstract world: cells by number (kind, length); ints, longs and references by cell and place -/
abbrev jS : Type := Nat → Nat → Int32
abbrev jL : Type := Nat → Nat → Int64
abbrev jR : Type := Nat → Nat → Option Nat
abbrev jK : Type := List (Nat × Nat)
abbrev jW : Type := jK × jS × jL × jR
/-- what is fixed: class numbers and slots; array classes; the old heap's size; addresses of the old arrays; their lengths and contents -/
abbrev jG : Type := va_G × (Nat → ClassId) × Nat × (Nat → Nat) × (Nat → Nat × (Nat → Int32))
def jad (G : jG) (r : Nat) : Nat := if r < 1000 then G.2.2.1 + r else G.2.2.2.1 (r - 1000)
def jA (G : jG) (q : Nat) : Prop := G.2.2.1 ≤ q
def jcv (G : jG) (v : Value) : Value := match v with
  | .ref r => .ref (jad G r)
  | v => v
def jTT : List (List Nat) := [[2, 2, 0, 0, 0], [2, 2, 2, 2, 2], [2, 2, 2, 2, 0, 0], [2, 2, 0, 0, 0, 0], [2, 2, 2, 2, 0, 0], [2, 2, 0], [2, 2, 2, 2, 2, 0, 0, 0, 0, 0], [2, 0], [2, 2, 2, 2, 2, 2, 0], [2, 2, 2, 2], [2, 2, 2, 2, 2, 0, 0, 0], [2, 2, 2, 2, 2, 2, 2, 2, 2, 2], [2, 2, 2, 2, 0, 0, 0, 2, 0, 2, 0, 2, 0, 0, 0, 0, 0, 0, 2, 2, 0, 0, 0, 0, 0, 0, 2, 2, 0, 2, 0, 0, 0, 2, 0, 2, 0, 0, 0, 0, 0, 0, 2, 0, 2, 2, 0, 0, 0, 2, 2, 2, 2]]
def jty (k i : Nat) : Nat := (jTT.getD k []).getD i 0
def jsv (G : jG) (I : jS) (L : jL) (R : jR) (r k i : Nat) : Value := if jty k i = 0 then .int (I r i) else if jty k i = 1 then .long (L r i) else va_rf ((R r i).map (jad G))
def jent (G : jG) (I : jS) (L : jL) (R : jR) (r : Nat) (q : Nat × Nat) : va_E :=
  if q.1 = 20 then .inl (G.2.1 0, q.2, .inl (I r))
  else if q.1 = 21 then .inl (G.2.1 1, q.2, .inr (.inl (L r)))
  else if q.1 = 22 then .inl (G.2.1 2, q.2, .inr (.inr (.inr (.inr (fun i => (R r i).map (jad G))))))
  else if q.1 = 23 then .inl (G.2.1 3, q.2, .inr (.inr (.inr (.inr (fun i => (R r i).map (jad G))))))
  else if q.1 = 24 then .inl (G.2.1 4, q.2, .inl (I r))
  else .inr (q.1, (List.range q.2).map (jsv G I L R r q.1))
def jws (G : jG) (w : jW) : va_W := (List.range w.1.length).map (fun r => (jad G r, jent G w.2.1 w.2.2.1 w.2.2.2 r (w.1.getD r (0, 0))))
theorem jws_get {G : jG} {w : jW} {r : Nat} {q : Nat × Nat} (h : w.1[r]? = some q) : (jws G w)[r]? = some (jad G r, jent G w.2.1 w.2.2.1 w.2.2.2 r q) := by
  have hl : r < w.1.length := (List.getElem?_eq_some_iff.mp h).1
  unfold jws
  rw [List.getElem?_map, List.getElem?_range hl, Option.map_some, List.getD_eq_getElem?_getD, h]
  rfl
theorem jws_len (G : jG) (w : jW) : (jws G w).length = w.1.length := by simp [jws]
/-- a cell's new contents: the world's list with that cell replaced -/
theorem jws_set {G : jG} {ks : jK} {I I' : jS} {L L' : jL} {R R' : jR} {r : Nat} {q : Nat × Nat} (h : ks[r]? = some q) (hI : ∀ x, x ≠ r → I' x = I x) (hL : ∀ x, x ≠ r → L' x = L x) (hR : ∀ x, x ≠ r → R' x = R x) :
    (jws G (ks, I, L, R)).set r (jad G r, jent G I' L' R' r q) = jws G (ks, I', L', R') := by
  apply List.ext_getElem?
  intro k
  by_cases hk : k = r
  · subst hk
    rw [List.getElem?_set_self (by rw [jws_len]; exact (List.getElem?_eq_some_iff.mp h).1), jws_get (w := (ks, I', L', R')) h]
  · rw [List.getElem?_set_ne (Ne.symm hk)]
    cases hq : ks[k]? with
    | none =>
      have h1 : ks.length ≤ k := by simpa using hq
      rw [List.getElem?_eq_none (by rw [jws_len]; exact h1), List.getElem?_eq_none (by rw [jws_len]; exact h1)]
    | some z =>
      rw [jws_get (w := (ks, I, L, R)) hq, jws_get (w := (ks, I', L', R')) hq]
      have hj : jsv G I' L' R' k z.1 = jsv G I L R k z.1 := by
        funext i
        simp only [jsv, hI k hk, hL k hk, hR k hk]
      simp only [jent, hj, hI k hk, hL k hk, hR k hk]
def jT (G : jG) : List (ClassId × FieldType) := [(G.2.1 0, .int), (G.2.1 1, .long), (G.2.1 2, .array .int), (G.2.1 3, .array .long), (G.2.1 4, .boolean)]
def jStat : List (String × String × Nat) := [("HeaviestLast$Pond", "FIRST", 1001), ("HeaviestLast$Pond", "LEAST", 1002), ("HeaviestLast$Pond", "MOST", 1003), ("HeaviestLast$Acts", "BODIES", 1004), ("HeaviestLast$Acts", "ABOVE", 1005)]
def jNest : List Cond := [.methodLinkNest "HeaviestLast$Shelves" 32 ⟨"HeaviestLast", "isShelf", "(I)Z"⟩ "HeaviestLast", .methodLinkNest "HeaviestLast$Ice" 26 ⟨"HeaviestLast", "isSquare", "(I)Z"⟩ "HeaviestLast", .methodLinkNest "HeaviestLast$Crosser" 61 ⟨"HeaviestLast", "isSquare", "(I)Z"⟩ "HeaviestLast", .methodLinkNest "HeaviestLast$Ice" 22 ⟨"HeaviestLast", "isWay", "(I)Z"⟩ "HeaviestLast", .methodLinkNest "HeaviestLast$Acts" 28 ⟨"HeaviestLast", "isKind", "(I)Z"⟩ "HeaviestLast", .arrayOver (.array .int), .arrayOver (.array .long)]
/-- the words that every method may use -/
def jWS : List Cond := lw_tbl.filter goodWord
theorem jWS_good {w : Cond} (h : w ∈ jWS) : (w.onTables && w.keeps) = true ∨ ∃ ty, w = .arrayClass ty := good_of_word (List.mem_filter.mp h).2
theorem jWS_of {w : Cond} (h : w ∈ lw_tbl) (hg : goodWord w = true) : w ∈ jWS := List.mem_filter.mpr ⟨h, hg⟩
/-- what holds of the tables and of the old heap at a method's entry -/
def jE (G : jG) (U : State) : Prop := va_K G.1 vwCl (jT G) U ∧ G.2.2.1 ≤ U.heap.size ∧ (∀ r, r < 6 → va_T .int (G.2.2.2.1 r) (G.2.2.2.2 r).1 (fun j => .int ((G.2.2.2.2 r).2 j)) (jA G) U U.heap) ∧
  (∀ q ∈ jStat, va_Z q.1 q.2.1 "[I" (.ref (jad G q.2.2)) (jA G) U U.heap) ∧ ∀ w ∈ jNest, va_Nw w U
/-- how many cells the whole world has once both objects are made -/
def jN : Nat := 93
/-- the world lies in the heap; while it grows, it is the heap's end -/
def jIn (G : jG) (w : jW) (H : Heap) : Prop := va_P G.1 vwCl (jws G w) H ∧ va_D (jA G) (jws G w) ∧ (w.1.length < jN → H.size = G.2.2.1 + w.1.length) ∧ w.1.length ≤ 1000
def jH (G : jG) (w : jW) (s : State) (H : Heap) (locs : List Loc) : Prop := jIn G w H ∧ va_S (jA G) s.heap H locs
def jC (G : jG) (y : MethodName) (cc : ByteArray) (nL : Nat) (p : Program) (s : State) (m : MethodId) (args : Array Value) (meth : Method) (c : Code) : Prop :=
  p.tables.exec = Jvm.exec ∧ c.code = cc ∧ c.maxLocals = nL ∧ s.vm.findClass y.cls = some m.cls ∧ (∀ w ∈ jWS, w.before args s = true) ∧ jE G s ∧ (y.name = "<init>" → meth.name = "<init>")
def jRm (d mc ms : Nat) (R : Room) (cells slots : Nat) : Prop := d ≤ R.frames ∧ 40 * d ≤ R.locals ∧ cells + mc ≤ R.cells ∧ slots + ms ≤ R.slots
def jRet (cc : ByteArray) (pc : Nat) (v : Option Value) : Prop := (v = none ∧ decode cc pc = .ok (.return_, 1)) ∨ (∃ x, v = some (.int x) ∧ decode cc pc = .ok (.ireturn, 1)) ∨ ∃ x, v = some (.long x) ∧ decode cc pc = .ok (.lreturn, 1)
/-- the locals that are known, by their places -/
def jlv (G : jG) : Nat → List (Option Value) → List (Nat × Value)
  | _, [] => []
  | i, none :: r => jlv G (i + 1) r
  | i, some v :: r => (i, jcv G v) :: jlv G (i + 1) r
theorem jlv_in (G : jG) : ∀ (ls : List (Option Value)) (i k : Nat) (v : Value), ls[k]? = some (some v) → (i + k, jcv G v) ∈ jlv G i ls
  | [], i, k, v, h => by simp at h
  | none :: r, i, 0, v, h => by simp at h
  | none :: r, i, k + 1, v, h => by
    have h2 := jlv_in G r (i + 1) k v (by simpa using h)
    rw [show i + 1 + k = i + (k + 1) by omega] at h2
    exact h2
  | some u :: r, i, 0, v, h => by
    have : u = v := by simpa using h
    subst this
    exact List.mem_cons_self
  | some u :: r, i, k + 1, v, h => by
    have h2 := jlv_in G r (i + 1) k v (by simpa using h)
    rw [show i + 1 + k = i + (k + 1) by omega] at h2
    exact List.mem_cons_of_mem _ h2
theorem jlv_of (G : jG) : ∀ (ls : List (Option Value)) (i : Nat) (q : Nat × Value), q ∈ jlv G i ls → ∃ (k : Nat) (v : Value), q = (i + k, jcv G v) ∧ ls[k]? = some (some v)
  | [], i, q, h => by simp [jlv] at h
  | none :: r, i, q, h => by
    obtain ⟨k, v, e, h2⟩ := jlv_of G r (i + 1) q h
    exact ⟨k + 1, v, by rw [e, show i + 1 + k = i + (k + 1) by omega], by simpa using h2⟩
  | some u :: r, i, q, h => by
    rcases List.mem_cons.mp h with h | h
    · exact ⟨0, u, by rw [h]; rfl, rfl⟩
    · obtain ⟨k, v, e, h2⟩ := jlv_of G r (i + 1) q h
      exact ⟨k + 1, v, by rw [e, show i + 1 + k = i + (k + 1) by omega], by simpa using h2⟩
theorem jlv_at {G : jG} {lsA : Array Slot} {nL : Nat} {ls : List (Option Value)} (h : lv_has lsA nL (jlv G 0 ls)) {k : Nat} {v : Value} (hk : ls[k]? = some (some v)) : lsA[k]? = some (.val (jcv G v)) := by
  have h1 := h.2.2 _ (jlv_in G ls 0 k v hk)
  simpa using h1
def jinv (a : Option Value) : Option Value := match a with
  | some (.long _) => none
  | some (.double _) => none
  | a => a
def jst1 : List (Option Value) → Nat → Value → List (Option Value)
  | [], _, _ => []
  | _ :: r, 0, v => some v :: r
  | a :: r, 1, v => jinv a :: jst1 r 0 v
  | a :: r, i + 2, v => a :: jst1 r (i + 1) v
theorem jcv_cat (G : jG) (v : Value) : (jcv G v).category = v.category := by cases v <;> rfl
theorem jst1_get : ∀ (ls : List (Option Value)) (i : Nat) (u : Value) (k : Nat) (v : Value), (jst1 ls i u)[k]? = some (some v) → (k = i ∧ v = u) ∨ (k ≠ i ∧ ls[k]? = some (some v) ∧ (k + 1 = i → v.category ≠ 2))
  | [], i, u, k, v, h => by simp [jst1] at h
  | a :: r, 0, u, 0, v, h => by
    left
    simp [jst1] at h
    exact ⟨rfl, h.symm⟩
  | a :: r, 0, u, k + 1, v, h => by
    right
    simp [jst1] at h
    exact ⟨by omega, by simpa using h, fun e => by omega⟩
  | a :: r, 1, u, 0, v, h => by
    right
    simp only [jst1, List.getElem?_cons_zero, Option.some.injEq] at h
    refine ⟨by omega, ?_, fun _ => ?_⟩
    · cases a with
      | none => simp [jinv] at h
      | some z => cases z <;> simp_all [jinv]
    · cases a with
      | none => simp [jinv] at h
      | some z => cases z <;> simp_all [jinv] <;> (subst h; simp [Value.category])
  | a :: r, 1, u, k + 1, v, h => by
    simp only [jst1, List.getElem?_cons_succ] at h
    rcases jst1_get r 0 u k v h with ⟨e1, e2⟩ | ⟨e1, e2, -⟩
    · exact Or.inl ⟨by omega, e2⟩
    · exact Or.inr ⟨by omega, by simpa using e2, fun e => by omega⟩
  | a :: r, i + 2, u, 0, v, h => by
    right
    simp only [jst1, List.getElem?_cons_zero] at h
    exact ⟨by omega, by simpa using h, fun e => by omega⟩
  | a :: r, i + 2, u, k + 1, v, h => by
    simp only [jst1, List.getElem?_cons_succ] at h
    rcases jst1_get r (i + 1) u k v h with ⟨e1, e2⟩ | ⟨e1, e2, e3⟩
    · exact Or.inl ⟨by omega, e2⟩
    · exact Or.inr ⟨by omega, by simpa using e2, fun e => e3 (by omega)⟩
theorem jst1_has {G : jG} {lsA : Array Slot} {nL : Nat} {ls : List (Option Value)} {i : Nat} {u : Value} (h : lv_has lsA nL ((i, jcv G u) :: (jlv G 0 ls).filter (fun q => !(q.1 == i) && !(q.1 + 1 == i && q.2.category == 2)))) : lv_has lsA nL (jlv G 0 (jst1 ls i u)) := by
  refine ⟨h.1, h.2.1, fun q hq => ?_⟩
  obtain ⟨k, v, e, hk⟩ := jlv_of G _ 0 q hq
  subst e
  rcases jst1_get ls i u k v hk with ⟨e1, e2⟩ | ⟨e1, e2, e3⟩
  · subst e1; subst e2
    have h1 := h.2.2 _ List.mem_cons_self
    simpa using h1
  · refine h.2.2 _ (List.mem_cons_of_mem _ (List.mem_filter.mpr ⟨jlv_in G ls 0 k v e2, ?_⟩))
    simp only [Nat.zero_add, jcv_cat]
    by_cases hz : k + 1 = i
    · simp [e1, e3 hz]
    · simp [e1, hz]
def jst2 (ls : List (Option Value)) (i : Nat) (u : Value) : List (Option Value) := (jst1 ls i u).set (i + 1) none
theorem jst2_has {G : jG} {lsA : Array Slot} {nL : Nat} {ls : List (Option Value)} {i : Nat} {u : Value} (h : lv_has lsA nL ((i, jcv G u) :: (jlv G 0 ls).filter (fun q => !(q.1 == i) && (!(q.1 == i + 1) && !(q.1 + 1 == i && q.2.category == 2))))) : lv_has lsA nL (jlv G 0 (jst2 ls i u)) := by
  refine ⟨h.1, h.2.1, fun q hq => ?_⟩
  obtain ⟨k, v, e, hk⟩ := jlv_of G _ 0 q hq
  subst e
  have hne : k ≠ i + 1 := by
    intro he
    subst he
    unfold jst2 at hk
    by_cases hl : i + 1 < (jst1 ls i u).length
    · rw [List.getElem?_set_self hl] at hk
      cases hk
    · rw [List.getElem?_eq_none (by simp; omega)] at hk
      cases hk
  unfold jst2 at hk
  rw [List.getElem?_set_ne (Ne.symm hne)] at hk
  rcases jst1_get ls i u k v hk with ⟨e1, e2⟩ | ⟨e1, e2, e3⟩
  · subst e1; subst e2
    have h1 := h.2.2 _ List.mem_cons_self
    simpa using h1
  · refine h.2.2 _ (List.mem_cons_of_mem _ (List.mem_filter.mpr ⟨jlv_in G ls 0 k v e2, ?_⟩))
    simp only [Nat.zero_add, jcv_cat]
    by_cases hz : k + 1 = i
    · simp [e1, hne, e3 hz]
    · simp [e1, hne, hz]
/-- THE JUDGEMENT: in method y with code cc, at pc, with known locals ls, stack st and world w, with d frames and mc cells of ms slots to spend: the machine comes to a return at which Q holds of the answer and the world -/
def J (G : jG) (l : Launch) (y : MethodName) (cc : ByteArray) (nL d mc ms pc : Nat) (ls : List (Option Value)) (st : List Value) (w : jW) (Q : Option Value → jW → Prop) : Prop :=
  ∀ (p : Program) (e : Env) (R : Room) (s : State) (m : MethodId) (args : Array Value) (below : List Frame) (meth : Method) (c : Code) (Z : State → Prop) (H : Heap) (locs : List Loc) (cells slots : Nat) (lsA : Array Slot),
    jC G y cc nL p s m args meth c → jRm d mc ms R cells slots → jH G w s H locs → lv_has lsA nL (jlv G 0 ls) →
    (∀ (v : Option Value) (w' : jW) (H' : Heap) (locs' : List Loc) (cells' slots' pc' : Nat) (lsA' : Array Slot), Q v w' → cells' ≤ R.cells → slots' ≤ R.slots → jH G w' s H' locs' → jRet cc pc' v → W p l e R s m args below meth c H' locs' cells' slots' Z (F0 m pc' lsA' (v.toList.map (jcv G)))) →
    W p l e R s m args below meth c H locs cells slots Z (F0 m pc lsA (st.map (jcv G)))
section JR
variable {G : jG} {l : Launch} {y : MethodName} {cc : ByteArray} {nL d mc ms pc : Nat} {ls : List (Option Value)} {st : List Value} {w : jW} {Q : Option Value → jW → Prop}
theorem J.eq {pc' : Nat} {ls' : List (Option Value)} {st' : List Value} {w' : jW} (h : J G l y cc nL d mc ms pc' ls' st' w' Q) (e1 : pc' = pc := by rfl) (e2 : ls' = ls := by rfl) (e3 : st' = st := by rfl) (e4 : w' = w := by rfl) : J G l y cc nL d mc ms pc ls st w Q := by
  subst e1; subst e2; subst e3; subst e4; exact h
theorem jr_iconst {n : Int} {v : Int32} (hdg : decode cc pc = .ok (.iconst n, 1)) (hv : Int32.ofInt n = v)
    (k : J G l y cc nL d mc ms (pc + 1) ls (.int v :: st) w Q) : J G l y cc nL d mc ms pc ls (st) w Q :=
  fun p e R s m args below meth c Z H locs cells slots lsA hC hR hH hl hZ => lv_iconst hC.1 hC.2.1 hdg hv (k p e R s m args below meth c Z H locs cells slots lsA hC hR hH hl hZ)
theorem jr_bipush {n : Int} {v : Int32} (hdg : decode cc pc = .ok (.bipush n, 2)) (hv : (Int8.ofInt n).toInt32 = v)
    (k : J G l y cc nL d mc ms (pc + 2) ls (.int v :: st) w Q) : J G l y cc nL d mc ms pc ls (st) w Q :=
  fun p e R s m args below meth c Z H locs cells slots lsA hC hR hH hl hZ => lv_bipush hC.1 hC.2.1 hdg hv (k p e R s m args below meth c Z H locs cells slots lsA hC hR hH hl hZ)
theorem jr_sipush {n : Int} {v : Int32} (hdg : decode cc pc = .ok (.sipush n, 3)) (hv : (Int16.ofInt n).toInt32 = v)
    (k : J G l y cc nL d mc ms (pc + 3) ls (.int v :: st) w Q) : J G l y cc nL d mc ms pc ls (st) w Q :=
  fun p e R s m args below meth c Z H locs cells slots lsA hC hR hH hl hZ => lv_sipush hC.1 hC.2.1 hdg hv (k p e R s m args below meth c Z H locs cells slots lsA hC hR hH hl hZ)
theorem jr_lconst {n : Fin 2} {v : Int64} (hdg : decode cc pc = .ok (.lconst n, 1)) (hv : Int64.ofNat (n : Nat) = v)
    (k : J G l y cc nL d mc ms (pc + 1) ls (.long v :: st) w Q) : J G l y cc nL d mc ms pc ls (st) w Q :=
  fun p e R s m args below meth c Z H locs cells slots lsA hC hR hH hl hZ => lv_lconst hC.1 hC.2.1 hdg hv (k p e R s m args below meth c Z H locs cells slots lsA hC hR hH hl hZ)
theorem jr_ldc {i : Nat} {v : Int32} (hw : Cond.constant y.cls i v ∈ jWS) (hdg : decode cc pc = .ok (.ldc i, 2))
    (k : J G l y cc nL d mc ms (pc + 2) ls (.int v :: st) w Q) : J G l y cc nL d mc ms pc ls (st) w Q :=
  fun p e R s m args below meth c Z H locs cells slots lsA hC hR hH hl hZ => lv_ldc hC.1 hC.2.1 hC.2.2.2.1 (hC.2.2.2.2.1 _ hw) hdg (k p e R s m args below meth c Z H locs cells slots lsA hC hR hH hl hZ)
theorem jr_ldcw {i : Nat} {v : Int32} (hw : Cond.constant y.cls i v ∈ jWS) (hdg : decode cc pc = .ok (.ldc_w i, 3))
    (k : J G l y cc nL d mc ms (pc + 3) ls (.int v :: st) w Q) : J G l y cc nL d mc ms pc ls (st) w Q :=
  fun p e R s m args below meth c Z H locs cells slots lsA hC hR hH hl hZ => lv_ldcw hC.1 hC.2.1 hC.2.2.2.1 (hC.2.2.2.2.1 _ hw) hdg (k p e R s m args below meth c Z H locs cells slots lsA hC hR hH hl hZ)
theorem jr_ldc2 {i : Nat} {v : Int64} (hw : Cond.constantLong y.cls i v ∈ jWS) (hdg : decode cc pc = .ok (.ldc2_w i, 3))
    (k : J G l y cc nL d mc ms (pc + 3) ls (.long v :: st) w Q) : J G l y cc nL d mc ms pc ls (st) w Q :=
  fun p e R s m args below meth c Z H locs cells slots lsA hC hR hH hl hZ => lv_ldc2 hC.1 hC.2.1 hC.2.2.2.1 (hC.2.2.2.2.1 _ hw) hdg (k p e R s m args below meth c Z H locs cells slots lsA hC hR hH hl hZ)
theorem jr_iload_n {k0 : Fin 4} {i : Nat} {x : Int32} (hdg : decode cc pc = .ok (.iload_n k0, 1)) (hi : (k0 : Nat) = i) (hx : ls[i]? = some (some (.int x)))
    (k : J G l y cc nL d mc ms (pc + 1) ls (.int x :: st) w Q) : J G l y cc nL d mc ms pc ls (st) w Q :=
  fun p e R s m args below meth c Z H locs cells slots lsA hC hR hH hl hZ => lv_iload_n hC.1 hC.2.1 hdg hi (jlv_at hl hx) (k p e R s m args below meth c Z H locs cells slots lsA hC hR hH hl hZ)
theorem jr_iload {i : Nat} {x : Int32} (hdg : decode cc pc = .ok (.iload i, 2)) (hx : ls[i]? = some (some (.int x)))
    (k : J G l y cc nL d mc ms (pc + 2) ls (.int x :: st) w Q) : J G l y cc nL d mc ms pc ls (st) w Q :=
  fun p e R s m args below meth c Z H locs cells slots lsA hC hR hH hl hZ => lv_iload hC.1 hC.2.1 hdg (jlv_at hl hx) (k p e R s m args below meth c Z H locs cells slots lsA hC hR hH hl hZ)
theorem jr_istore_n {k0 : Fin 4} {i : Nat} {x : Int32} {ls1 : List (Option Value)} (hdg : decode cc pc = .ok (.istore_n k0, 1)) (hi : (k0 : Nat) = i) (hn : i < nL) (hs : jst1 ls i (.int x) = ls1)
    (k : J G l y cc nL d mc ms (pc + 1) ls1 st w Q) : J G l y cc nL d mc ms pc ls (.int x :: st) w Q :=
  fun p e R s m args below meth c Z H locs cells slots lsA hC hR hH hl hZ => lv_istore_n hC.1 hC.2.1 hdg hi hl hn rfl (fun ls1 hl1 => k p e R s m args below meth c Z H locs cells slots ls1 hC hR hH (by subst hs; exact jst1_has hl1) hZ)
theorem jr_istore {i : Nat} {x : Int32} {ls1 : List (Option Value)} (hdg : decode cc pc = .ok (.istore i, 2)) (hn : i < nL) (hs : jst1 ls i (.int x) = ls1)
    (k : J G l y cc nL d mc ms (pc + 2) ls1 st w Q) : J G l y cc nL d mc ms pc ls (.int x :: st) w Q :=
  fun p e R s m args below meth c Z H locs cells slots lsA hC hR hH hl hZ => lv_istore hC.1 hC.2.1 hdg hl hn rfl (fun ls1 hl1 => k p e R s m args below meth c Z H locs cells slots ls1 hC hR hH (by subst hs; exact jst1_has hl1) hZ)
theorem jr_lload_n {k0 : Fin 4} {i : Nat} {x : Int64} (hdg : decode cc pc = .ok (.lload_n k0, 1)) (hi : (k0 : Nat) = i) (hx : ls[i]? = some (some (.long x)))
    (k : J G l y cc nL d mc ms (pc + 1) ls (.long x :: st) w Q) : J G l y cc nL d mc ms pc ls (st) w Q :=
  fun p e R s m args below meth c Z H locs cells slots lsA hC hR hH hl hZ => lv_lload_n hC.1 hC.2.1 hdg hi (jlv_at hl hx) (k p e R s m args below meth c Z H locs cells slots lsA hC hR hH hl hZ)
theorem jr_lload {i : Nat} {x : Int64} (hdg : decode cc pc = .ok (.lload i, 2)) (hx : ls[i]? = some (some (.long x)))
    (k : J G l y cc nL d mc ms (pc + 2) ls (.long x :: st) w Q) : J G l y cc nL d mc ms pc ls (st) w Q :=
  fun p e R s m args below meth c Z H locs cells slots lsA hC hR hH hl hZ => lv_lload hC.1 hC.2.1 hdg (jlv_at hl hx) (k p e R s m args below meth c Z H locs cells slots lsA hC hR hH hl hZ)
theorem jr_lstore_n {k0 : Fin 4} {i : Nat} {x : Int64} {ls1 : List (Option Value)} (hdg : decode cc pc = .ok (.lstore_n k0, 1)) (hi : (k0 : Nat) = i) (hn : i + 1 < nL) (hs : jst2 ls i (.long x) = ls1)
    (k : J G l y cc nL d mc ms (pc + 1) ls1 st w Q) : J G l y cc nL d mc ms pc ls (.long x :: st) w Q :=
  fun p e R s m args below meth c Z H locs cells slots lsA hC hR hH hl hZ => lv_lstore_n hC.1 hC.2.1 hdg hi hl hn rfl (fun ls1 hl1 => k p e R s m args below meth c Z H locs cells slots ls1 hC hR hH (by subst hs; exact jst2_has hl1) hZ)
theorem jr_lstore {i : Nat} {x : Int64} {ls1 : List (Option Value)} (hdg : decode cc pc = .ok (.lstore i, 2)) (hn : i + 1 < nL) (hs : jst2 ls i (.long x) = ls1)
    (k : J G l y cc nL d mc ms (pc + 2) ls1 st w Q) : J G l y cc nL d mc ms pc ls (.long x :: st) w Q :=
  fun p e R s m args below meth c Z H locs cells slots lsA hC hR hH hl hZ => lv_lstore hC.1 hC.2.1 hdg hl hn rfl (fun ls1 hl1 => k p e R s m args below meth c Z H locs cells slots ls1 hC hR hH (by subst hs; exact jst2_has hl1) hZ)
theorem jr_aload_n {k0 : Fin 4} {i : Nat} {x : Nat} (hdg : decode cc pc = .ok (.aload_n k0, 1)) (hi : (k0 : Nat) = i) (hx : ls[i]? = some (some (.ref x)))
    (k : J G l y cc nL d mc ms (pc + 1) ls (.ref x :: st) w Q) : J G l y cc nL d mc ms pc ls (st) w Q :=
  fun p e R s m args below meth c Z H locs cells slots lsA hC hR hH hl hZ => lv_aload_n hC.1 hC.2.1 hdg hi (jlv_at hl hx) (k p e R s m args below meth c Z H locs cells slots lsA hC hR hH hl hZ)
theorem jr_aload {i : Nat} {x : Nat} (hdg : decode cc pc = .ok (.aload i, 2)) (hx : ls[i]? = some (some (.ref x)))
    (k : J G l y cc nL d mc ms (pc + 2) ls (.ref x :: st) w Q) : J G l y cc nL d mc ms pc ls (st) w Q :=
  fun p e R s m args below meth c Z H locs cells slots lsA hC hR hH hl hZ => lv_aload hC.1 hC.2.1 hdg (jlv_at hl hx) (k p e R s m args below meth c Z H locs cells slots lsA hC hR hH hl hZ)
theorem jr_astore_n {k0 : Fin 4} {i : Nat} {x : Nat} {ls1 : List (Option Value)} (hdg : decode cc pc = .ok (.astore_n k0, 1)) (hi : (k0 : Nat) = i) (hn : i < nL) (hs : jst1 ls i (.ref x) = ls1)
    (k : J G l y cc nL d mc ms (pc + 1) ls1 st w Q) : J G l y cc nL d mc ms pc ls (.ref x :: st) w Q :=
  fun p e R s m args below meth c Z H locs cells slots lsA hC hR hH hl hZ => lv_astore_n hC.1 hC.2.1 hdg hi hl hn rfl (fun ls1 hl1 => k p e R s m args below meth c Z H locs cells slots ls1 hC hR hH (by subst hs; exact jst1_has hl1) hZ)
theorem jr_astore {i : Nat} {x : Nat} {ls1 : List (Option Value)} (hdg : decode cc pc = .ok (.astore i, 2)) (hn : i < nL) (hs : jst1 ls i (.ref x) = ls1)
    (k : J G l y cc nL d mc ms (pc + 2) ls1 st w Q) : J G l y cc nL d mc ms pc ls (.ref x :: st) w Q :=
  fun p e R s m args below meth c Z H locs cells slots lsA hC hR hH hl hZ => lv_astore hC.1 hC.2.1 hdg hl hn rfl (fun ls1 hl1 => k p e R s m args below meth c Z H locs cells slots ls1 hC hR hH (by subst hs; exact jst1_has hl1) hZ)
theorem jr_iinc {i : Nat} {n : Int} {x v : Int32} {ls1 : List (Option Value)} (hdg : decode cc pc = .ok (.iinc i n, 3)) (hx : ls[i]? = some (some (.int x))) (hv : x + Int32.ofInt n = v) (hn : i < nL) (hs : jst1 ls i (.int v) = ls1)
    (k : J G l y cc nL d mc ms (pc + 3) ls1 st w Q) : J G l y cc nL d mc ms pc ls st w Q := by
  intro p e R s m args below meth c Z H locs cells slots lsA hC hR hH hl hZ
  obtain ⟨k0, hk0⟩ := List.getElem?_of_mem (jlv_in G ls 0 i (.int x) hx)
  rw [Nat.zero_add] at hk0
  exact lv_iinc hC.1 hC.2.1 hdg hl hk0 hv hn rfl (fun ls1 hl1 => k p e R s m args below meth c Z H locs cells slots ls1 hC hR hH (by subst hs; exact jst1_has (u := .int v) hl1) hZ)
theorem jr_iadd {x y0 : Int32} (hdg : decode cc pc = .ok (.iadd, 1))
    (k : J G l y cc nL d mc ms (pc + 1) ls (.int (x + y0) :: st) w Q) : J G l y cc nL d mc ms pc ls (.int y0 :: .int x :: st) w Q :=
  fun p e R s m args below meth c Z H locs cells slots lsA hC hR hH hl hZ => lv_iadd hC.1 hC.2.1 hdg (k p e R s m args below meth c Z H locs cells slots lsA hC hR hH hl hZ)
theorem jr_ladd {x y0 : Int64} (hdg : decode cc pc = .ok (.ladd, 1))
    (k : J G l y cc nL d mc ms (pc + 1) ls (.long (x + y0) :: st) w Q) : J G l y cc nL d mc ms pc ls (.long y0 :: .long x :: st) w Q :=
  fun p e R s m args below meth c Z H locs cells slots lsA hC hR hH hl hZ => lv_ladd hC.1 hC.2.1 hdg (k p e R s m args below meth c Z H locs cells slots lsA hC hR hH hl hZ)
theorem jr_isub {x y0 : Int32} (hdg : decode cc pc = .ok (.isub, 1))
    (k : J G l y cc nL d mc ms (pc + 1) ls (.int (x - y0) :: st) w Q) : J G l y cc nL d mc ms pc ls (.int y0 :: .int x :: st) w Q :=
  fun p e R s m args below meth c Z H locs cells slots lsA hC hR hH hl hZ => lv_isub hC.1 hC.2.1 hdg (k p e R s m args below meth c Z H locs cells slots lsA hC hR hH hl hZ)
theorem jr_lsub {x y0 : Int64} (hdg : decode cc pc = .ok (.lsub, 1))
    (k : J G l y cc nL d mc ms (pc + 1) ls (.long (x - y0) :: st) w Q) : J G l y cc nL d mc ms pc ls (.long y0 :: .long x :: st) w Q :=
  fun p e R s m args below meth c Z H locs cells slots lsA hC hR hH hl hZ => lv_lsub hC.1 hC.2.1 hdg (k p e R s m args below meth c Z H locs cells slots lsA hC hR hH hl hZ)
theorem jr_imul {x y0 : Int32} (hdg : decode cc pc = .ok (.imul, 1))
    (k : J G l y cc nL d mc ms (pc + 1) ls (.int (x * y0) :: st) w Q) : J G l y cc nL d mc ms pc ls (.int y0 :: .int x :: st) w Q :=
  fun p e R s m args below meth c Z H locs cells slots lsA hC hR hH hl hZ => lv_imul hC.1 hC.2.1 hdg (k p e R s m args below meth c Z H locs cells slots lsA hC hR hH hl hZ)
theorem jr_lmul {x y0 : Int64} (hdg : decode cc pc = .ok (.lmul, 1))
    (k : J G l y cc nL d mc ms (pc + 1) ls (.long (x * y0) :: st) w Q) : J G l y cc nL d mc ms pc ls (.long y0 :: .long x :: st) w Q :=
  fun p e R s m args below meth c Z H locs cells slots lsA hC hR hH hl hZ => lv_lmul hC.1 hC.2.1 hdg (k p e R s m args below meth c Z H locs cells slots lsA hC hR hH hl hZ)
theorem jr_iand {x y0 : Int32} (hdg : decode cc pc = .ok (.iand, 1))
    (k : J G l y cc nL d mc ms (pc + 1) ls (.int (x &&& y0) :: st) w Q) : J G l y cc nL d mc ms pc ls (.int y0 :: .int x :: st) w Q :=
  fun p e R s m args below meth c Z H locs cells slots lsA hC hR hH hl hZ => lv_iand hC.1 hC.2.1 hdg (k p e R s m args below meth c Z H locs cells slots lsA hC hR hH hl hZ)
theorem jr_land {x y0 : Int64} (hdg : decode cc pc = .ok (.land, 1))
    (k : J G l y cc nL d mc ms (pc + 1) ls (.long (x &&& y0) :: st) w Q) : J G l y cc nL d mc ms pc ls (.long y0 :: .long x :: st) w Q :=
  fun p e R s m args below meth c Z H locs cells slots lsA hC hR hH hl hZ => lv_land hC.1 hC.2.1 hdg (k p e R s m args below meth c Z H locs cells slots lsA hC hR hH hl hZ)
theorem jr_ior {x y0 : Int32} (hdg : decode cc pc = .ok (.ior, 1))
    (k : J G l y cc nL d mc ms (pc + 1) ls (.int (x ||| y0) :: st) w Q) : J G l y cc nL d mc ms pc ls (.int y0 :: .int x :: st) w Q :=
  fun p e R s m args below meth c Z H locs cells slots lsA hC hR hH hl hZ => lv_ior hC.1 hC.2.1 hdg (k p e R s m args below meth c Z H locs cells slots lsA hC hR hH hl hZ)
theorem jr_lor {x y0 : Int64} (hdg : decode cc pc = .ok (.lor, 1))
    (k : J G l y cc nL d mc ms (pc + 1) ls (.long (x ||| y0) :: st) w Q) : J G l y cc nL d mc ms pc ls (.long y0 :: .long x :: st) w Q :=
  fun p e R s m args below meth c Z H locs cells slots lsA hC hR hH hl hZ => lv_lor hC.1 hC.2.1 hdg (k p e R s m args below meth c Z H locs cells slots lsA hC hR hH hl hZ)
theorem jr_ixor {x y0 : Int32} (hdg : decode cc pc = .ok (.ixor, 1))
    (k : J G l y cc nL d mc ms (pc + 1) ls (.int (x ^^^ y0) :: st) w Q) : J G l y cc nL d mc ms pc ls (.int y0 :: .int x :: st) w Q :=
  fun p e R s m args below meth c Z H locs cells slots lsA hC hR hH hl hZ => lv_ixor hC.1 hC.2.1 hdg (k p e R s m args below meth c Z H locs cells slots lsA hC hR hH hl hZ)
theorem jr_lxor {x y0 : Int64} (hdg : decode cc pc = .ok (.lxor, 1))
    (k : J G l y cc nL d mc ms (pc + 1) ls (.long (x ^^^ y0) :: st) w Q) : J G l y cc nL d mc ms pc ls (.long y0 :: .long x :: st) w Q :=
  fun p e R s m args below meth c Z H locs cells slots lsA hC hR hH hl hZ => lv_lxor hC.1 hC.2.1 hdg (k p e R s m args below meth c Z H locs cells slots lsA hC hR hH hl hZ)
theorem jr_idiv {x y0 : Int32} (hdg : decode cc pc = .ok (.idiv, 1)) (hne : ¬ y0 = 0)
    (k : J G l y cc nL d mc ms (pc + 1) ls (.int (x / y0) :: st) w Q) : J G l y cc nL d mc ms pc ls (.int y0 :: .int x :: st) w Q :=
  fun p e R s m args below meth c Z H locs cells slots lsA hC hR hH hl hZ => lv_idiv hC.1 hC.2.1 hdg hne (k p e R s m args below meth c Z H locs cells slots lsA hC hR hH hl hZ)
theorem jr_ldiv {x y0 : Int64} (hdg : decode cc pc = .ok (.ldiv, 1)) (hne : ¬ y0 = 0)
    (k : J G l y cc nL d mc ms (pc + 1) ls (.long (x / y0) :: st) w Q) : J G l y cc nL d mc ms pc ls (.long y0 :: .long x :: st) w Q :=
  fun p e R s m args below meth c Z H locs cells slots lsA hC hR hH hl hZ => lv_ldiv hC.1 hC.2.1 hdg hne (k p e R s m args below meth c Z H locs cells slots lsA hC hR hH hl hZ)
theorem jr_irem {x y0 : Int32} (hdg : decode cc pc = .ok (.irem, 1)) (hne : ¬ y0 = 0)
    (k : J G l y cc nL d mc ms (pc + 1) ls (.int (x - x / y0 * y0) :: st) w Q) : J G l y cc nL d mc ms pc ls (.int y0 :: .int x :: st) w Q :=
  fun p e R s m args below meth c Z H locs cells slots lsA hC hR hH hl hZ => lv_irem hC.1 hC.2.1 hdg hne (k p e R s m args below meth c Z H locs cells slots lsA hC hR hH hl hZ)
theorem jr_lrem {x y0 : Int64} (hdg : decode cc pc = .ok (.lrem, 1)) (hne : ¬ y0 = 0)
    (k : J G l y cc nL d mc ms (pc + 1) ls (.long (x - x / y0 * y0) :: st) w Q) : J G l y cc nL d mc ms pc ls (.long y0 :: .long x :: st) w Q :=
  fun p e R s m args below meth c Z H locs cells slots lsA hC hR hH hl hZ => lv_lrem hC.1 hC.2.1 hdg hne (k p e R s m args below meth c Z H locs cells slots lsA hC hR hH hl hZ)
theorem jr_ineg {x : Int32} (hdg : decode cc pc = .ok (.ineg, 1))
    (k : J G l y cc nL d mc ms (pc + 1) ls (.int (-x) :: st) w Q) : J G l y cc nL d mc ms pc ls (.int x :: st) w Q :=
  fun p e R s m args below meth c Z H locs cells slots lsA hC hR hH hl hZ => lv_ineg hC.1 hC.2.1 hdg (k p e R s m args below meth c Z H locs cells slots lsA hC hR hH hl hZ)
theorem jr_ishl {x y0 : Int32} (hdg : decode cc pc = .ok (.ishl, 1))
    (k : J G l y cc nL d mc ms (pc + 1) ls (.int (x <<< (y0 &&& 31)) :: st) w Q) : J G l y cc nL d mc ms pc ls (.int y0 :: .int x :: st) w Q :=
  fun p e R s m args below meth c Z H locs cells slots lsA hC hR hH hl hZ => lv_ishl hC.1 hC.2.1 hdg (k p e R s m args below meth c Z H locs cells slots lsA hC hR hH hl hZ)
theorem jr_ishr {x y0 : Int32} (hdg : decode cc pc = .ok (.ishr, 1))
    (k : J G l y cc nL d mc ms (pc + 1) ls (.int (x >>> (y0 &&& 31)) :: st) w Q) : J G l y cc nL d mc ms pc ls (.int y0 :: .int x :: st) w Q :=
  fun p e R s m args below meth c Z H locs cells slots lsA hC hR hH hl hZ => lv_ishr hC.1 hC.2.1 hdg (k p e R s m args below meth c Z H locs cells slots lsA hC hR hH hl hZ)
theorem jr_iushr {x y0 v : Int32} (hdg : decode cc pc = .ok (.iushr, 1)) (hv : (x.toUInt32 >>> (y0.toUInt32 &&& Int32.toUInt32 31)).toInt32 = v)
    (k : J G l y cc nL d mc ms (pc + 1) ls (.int v :: st) w Q) : J G l y cc nL d mc ms pc ls (.int y0 :: .int x :: st) w Q :=
  fun p e R s m args below meth c Z H locs cells slots lsA hC hR hH hl hZ => lv_iushr hC.1 hC.2.1 hdg hv (k p e R s m args below meth c Z H locs cells slots lsA hC hR hH hl hZ)
theorem jr_lshl {x v : Int64} {y0 : Int32} (hdg : decode cc pc = .ok (.lshl, 1)) (hv : x <<< (y0.toInt64 &&& 63) = v)
    (k : J G l y cc nL d mc ms (pc + 1) ls (.long v :: st) w Q) : J G l y cc nL d mc ms pc ls (.int y0 :: .long x :: st) w Q :=
  fun p e R s m args below meth c Z H locs cells slots lsA hC hR hH hl hZ => lv_lshl hC.1 hC.2.1 hdg hv (k p e R s m args below meth c Z H locs cells slots lsA hC hR hH hl hZ)
theorem jr_lshr {x v : Int64} {y0 : Int32} (hdg : decode cc pc = .ok (.lshr, 1)) (hv : x >>> (y0.toInt64 &&& 63) = v)
    (k : J G l y cc nL d mc ms (pc + 1) ls (.long v :: st) w Q) : J G l y cc nL d mc ms pc ls (.int y0 :: .long x :: st) w Q :=
  fun p e R s m args below meth c Z H locs cells slots lsA hC hR hH hl hZ => lv_lshr hC.1 hC.2.1 hdg hv (k p e R s m args below meth c Z H locs cells slots lsA hC hR hH hl hZ)
theorem jr_i2l {x : Int32} (hdg : decode cc pc = .ok (.i2l, 1))
    (k : J G l y cc nL d mc ms (pc + 1) ls (.long x.toInt64 :: st) w Q) : J G l y cc nL d mc ms pc ls (.int x :: st) w Q :=
  fun p e R s m args below meth c Z H locs cells slots lsA hC hR hH hl hZ => lv_i2l hC.1 hC.2.1 hdg rfl (k p e R s m args below meth c Z H locs cells slots lsA hC hR hH hl hZ)
theorem jr_l2i {x : Int64} (hdg : decode cc pc = .ok (.l2i, 1))
    (k : J G l y cc nL d mc ms (pc + 1) ls (.int x.toInt32 :: st) w Q) : J G l y cc nL d mc ms pc ls (.long x :: st) w Q :=
  fun p e R s m args below meth c Z H locs cells slots lsA hC hR hH hl hZ => lv_l2i hC.1 hC.2.1 hdg rfl (k p e R s m args below meth c Z H locs cells slots lsA hC hR hH hl hZ)
theorem jr_i2b {x : Int32} (hdg : decode cc pc = .ok (.i2b, 1))
    (k : J G l y cc nL d mc ms (pc + 1) ls (.int x.toInt8.toInt32 :: st) w Q) : J G l y cc nL d mc ms pc ls (.int x :: st) w Q :=
  fun p e R s m args below meth c Z H locs cells slots lsA hC hR hH hl hZ => lv_i2b hC.1 hC.2.1 hdg rfl (k p e R s m args below meth c Z H locs cells slots lsA hC hR hH hl hZ)
theorem jr_i2s {x : Int32} (hdg : decode cc pc = .ok (.i2s, 1))
    (k : J G l y cc nL d mc ms (pc + 1) ls (.int x.toInt16.toInt32 :: st) w Q) : J G l y cc nL d mc ms pc ls (.int x :: st) w Q :=
  fun p e R s m args below meth c Z H locs cells slots lsA hC hR hH hl hZ => lv_i2s hC.1 hC.2.1 hdg rfl (k p e R s m args below meth c Z H locs cells slots lsA hC hR hH hl hZ)
theorem jr_lcmp {x y0 : Int64} (hdg : decode cc pc = .ok (.lcmp, 1))
    (k : J G l y cc nL d mc ms (pc + 1) ls (.int (lg_cmp x y0) :: st) w Q) : J G l y cc nL d mc ms pc ls (.long y0 :: .long x :: st) w Q :=
  fun p e R s m args below meth c Z H locs cells slots lsA hC hR hH hl hZ => W.lcmp hC.1 hC.2.1 hdg (k p e R s m args below meth c Z H locs cells slots lsA hC hR hH hl hZ)
theorem jr_dup {va : Value} (hdg : decode cc pc = .ok (.dup, 1)) (hva : va.category = 1)
    (k : J G l y cc nL d mc ms (pc + 1) ls (va :: va :: st) w Q) : J G l y cc nL d mc ms pc ls (va :: st) w Q :=
  fun p e R s m args below meth c Z H locs cells slots lsA hC hR hH hl hZ => lv_dup hC.1 hC.2.1 hdg ((jcv_cat G va).trans hva) (k p e R s m args below meth c Z H locs cells slots lsA hC hR hH hl hZ)
theorem jr_pop {va : Value} (hdg : decode cc pc = .ok (.pop, 1)) (hva : va.category = 1)
    (k : J G l y cc nL d mc ms (pc + 1) ls (st) w Q) : J G l y cc nL d mc ms pc ls (va :: st) w Q :=
  fun p e R s m args below meth c Z H locs cells slots lsA hC hR hH hl hZ => lv_pop hC.1 hC.2.1 hdg ((jcv_cat G va).trans hva) (k p e R s m args below meth c Z H locs cells slots lsA hC hR hH hl hZ)
theorem jr_dup2_11 {va vb : Value} (hdg : decode cc pc = .ok (.dup2, 1)) (hva : va.category = 1) (hvb : vb.category = 1)
    (k : J G l y cc nL d mc ms (pc + 1) ls (va :: vb :: va :: vb :: st) w Q) : J G l y cc nL d mc ms pc ls (va :: vb :: st) w Q :=
  fun p e R s m args below meth c Z H locs cells slots lsA hC hR hH hl hZ => lv_dup2_11 hC.1 hC.2.1 hdg ((jcv_cat G va).trans hva) ((jcv_cat G vb).trans hvb) (k p e R s m args below meth c Z H locs cells slots lsA hC hR hH hl hZ)
theorem jr_pop2_2 {va : Value} (hdg : decode cc pc = .ok (.pop2, 1)) (hva : va.category = 2)
    (k : J G l y cc nL d mc ms (pc + 1) ls (st) w Q) : J G l y cc nL d mc ms pc ls (va :: st) w Q :=
  fun p e R s m args below meth c Z H locs cells slots lsA hC hR hH hl hZ => lv_pop2_2 hC.1 hC.2.1 hdg ((jcv_cat G va).trans hva) (k p e R s m args below meth c Z H locs cells slots lsA hC hR hH hl hZ)
theorem jr_dup_x1 {va vb : Value} (hdg : decode cc pc = .ok (.dup_x1, 1)) (hva : va.category = 1) (hvb : vb.category = 1)
    (k : J G l y cc nL d mc ms (pc + 1) ls (va :: vb :: va :: st) w Q) : J G l y cc nL d mc ms pc ls (va :: vb :: st) w Q :=
  fun p e R s m args below meth c Z H locs cells slots lsA hC hR hH hl hZ => lv_dup_x1 hC.1 hC.2.1 hdg ((jcv_cat G va).trans hva) ((jcv_cat G vb).trans hvb) (k p e R s m args below meth c Z H locs cells slots lsA hC hR hH hl hZ)
theorem jr_if_eq {x : Int32} {off : Int} {tgt : Nat} (hdg : decode cc pc = .ok (.ifCond .eq off, 3)) (ht : (pc : Int) + off = (tgt : Int))
    (kt : x = 0 → J G l y cc nL d mc ms tgt ls st w Q) (kf : ¬ x = 0 → J G l y cc nL d mc ms (pc + 3) ls st w Q) : J G l y cc nL d mc ms pc ls (.int x :: st) w Q :=
  fun p e R s m args below meth c Z H locs cells slots lsA hC hR hH hl hZ => lv_if_eq hC.1 hC.2.1 hdg ht (fun h => kt h p e R s m args below meth c Z H locs cells slots lsA hC hR hH hl hZ) (fun h => kf h p e R s m args below meth c Z H locs cells slots lsA hC hR hH hl hZ)
theorem jr_icmp_eq {x y0 : Int32} {off : Int} {tgt : Nat} (hdg : decode cc pc = .ok (.if_icmp .eq off, 3)) (ht : (pc : Int) + off = (tgt : Int))
    (kt : x = y0 → J G l y cc nL d mc ms tgt ls st w Q) (kf : ¬ x = y0 → J G l y cc nL d mc ms (pc + 3) ls st w Q) : J G l y cc nL d mc ms pc ls (.int y0 :: .int x :: st) w Q :=
  fun p e R s m args below meth c Z H locs cells slots lsA hC hR hH hl hZ => lv_icmp_eq hC.1 hC.2.1 hdg ht (fun h => kt h p e R s m args below meth c Z H locs cells slots lsA hC hR hH hl hZ) (fun h => kf h p e R s m args below meth c Z H locs cells slots lsA hC hR hH hl hZ)
theorem jr_if_ne {x : Int32} {off : Int} {tgt : Nat} (hdg : decode cc pc = .ok (.ifCond .ne off, 3)) (ht : (pc : Int) + off = (tgt : Int))
    (kt : ¬ x = 0 → J G l y cc nL d mc ms tgt ls st w Q) (kf : x = 0 → J G l y cc nL d mc ms (pc + 3) ls st w Q) : J G l y cc nL d mc ms pc ls (.int x :: st) w Q :=
  fun p e R s m args below meth c Z H locs cells slots lsA hC hR hH hl hZ => lv_if_ne hC.1 hC.2.1 hdg ht (fun h => kt h p e R s m args below meth c Z H locs cells slots lsA hC hR hH hl hZ) (fun h => kf h p e R s m args below meth c Z H locs cells slots lsA hC hR hH hl hZ)
theorem jr_icmp_ne {x y0 : Int32} {off : Int} {tgt : Nat} (hdg : decode cc pc = .ok (.if_icmp .ne off, 3)) (ht : (pc : Int) + off = (tgt : Int))
    (kt : ¬ x = y0 → J G l y cc nL d mc ms tgt ls st w Q) (kf : x = y0 → J G l y cc nL d mc ms (pc + 3) ls st w Q) : J G l y cc nL d mc ms pc ls (.int y0 :: .int x :: st) w Q :=
  fun p e R s m args below meth c Z H locs cells slots lsA hC hR hH hl hZ => lv_icmp_ne hC.1 hC.2.1 hdg ht (fun h => kt h p e R s m args below meth c Z H locs cells slots lsA hC hR hH hl hZ) (fun h => kf h p e R s m args below meth c Z H locs cells slots lsA hC hR hH hl hZ)
theorem jr_if_lt {x : Int32} {off : Int} {tgt : Nat} (hdg : decode cc pc = .ok (.ifCond .lt off, 3)) (ht : (pc : Int) + off = (tgt : Int))
    (kt : x < 0 → J G l y cc nL d mc ms tgt ls st w Q) (kf : ¬ x < 0 → J G l y cc nL d mc ms (pc + 3) ls st w Q) : J G l y cc nL d mc ms pc ls (.int x :: st) w Q :=
  fun p e R s m args below meth c Z H locs cells slots lsA hC hR hH hl hZ => lv_if_lt hC.1 hC.2.1 hdg ht (fun h => kt h p e R s m args below meth c Z H locs cells slots lsA hC hR hH hl hZ) (fun h => kf h p e R s m args below meth c Z H locs cells slots lsA hC hR hH hl hZ)
theorem jr_icmp_lt {x y0 : Int32} {off : Int} {tgt : Nat} (hdg : decode cc pc = .ok (.if_icmp .lt off, 3)) (ht : (pc : Int) + off = (tgt : Int))
    (kt : x < y0 → J G l y cc nL d mc ms tgt ls st w Q) (kf : ¬ x < y0 → J G l y cc nL d mc ms (pc + 3) ls st w Q) : J G l y cc nL d mc ms pc ls (.int y0 :: .int x :: st) w Q :=
  fun p e R s m args below meth c Z H locs cells slots lsA hC hR hH hl hZ => lv_icmp_lt hC.1 hC.2.1 hdg ht (fun h => kt h p e R s m args below meth c Z H locs cells slots lsA hC hR hH hl hZ) (fun h => kf h p e R s m args below meth c Z H locs cells slots lsA hC hR hH hl hZ)
theorem jr_if_ge {x : Int32} {off : Int} {tgt : Nat} (hdg : decode cc pc = .ok (.ifCond .ge off, 3)) (ht : (pc : Int) + off = (tgt : Int))
    (kt : 0 ≤ x → J G l y cc nL d mc ms tgt ls st w Q) (kf : ¬ 0 ≤ x → J G l y cc nL d mc ms (pc + 3) ls st w Q) : J G l y cc nL d mc ms pc ls (.int x :: st) w Q :=
  fun p e R s m args below meth c Z H locs cells slots lsA hC hR hH hl hZ => lv_if_ge hC.1 hC.2.1 hdg ht (fun h => kt h p e R s m args below meth c Z H locs cells slots lsA hC hR hH hl hZ) (fun h => kf h p e R s m args below meth c Z H locs cells slots lsA hC hR hH hl hZ)
theorem jr_icmp_ge {x y0 : Int32} {off : Int} {tgt : Nat} (hdg : decode cc pc = .ok (.if_icmp .ge off, 3)) (ht : (pc : Int) + off = (tgt : Int))
    (kt : y0 ≤ x → J G l y cc nL d mc ms tgt ls st w Q) (kf : ¬ y0 ≤ x → J G l y cc nL d mc ms (pc + 3) ls st w Q) : J G l y cc nL d mc ms pc ls (.int y0 :: .int x :: st) w Q :=
  fun p e R s m args below meth c Z H locs cells slots lsA hC hR hH hl hZ => lv_icmp_ge hC.1 hC.2.1 hdg ht (fun h => kt h p e R s m args below meth c Z H locs cells slots lsA hC hR hH hl hZ) (fun h => kf h p e R s m args below meth c Z H locs cells slots lsA hC hR hH hl hZ)
theorem jr_if_gt {x : Int32} {off : Int} {tgt : Nat} (hdg : decode cc pc = .ok (.ifCond .gt off, 3)) (ht : (pc : Int) + off = (tgt : Int))
    (kt : 0 < x → J G l y cc nL d mc ms tgt ls st w Q) (kf : ¬ 0 < x → J G l y cc nL d mc ms (pc + 3) ls st w Q) : J G l y cc nL d mc ms pc ls (.int x :: st) w Q :=
  fun p e R s m args below meth c Z H locs cells slots lsA hC hR hH hl hZ => lv_if_gt hC.1 hC.2.1 hdg ht (fun h => kt h p e R s m args below meth c Z H locs cells slots lsA hC hR hH hl hZ) (fun h => kf h p e R s m args below meth c Z H locs cells slots lsA hC hR hH hl hZ)
theorem jr_icmp_gt {x y0 : Int32} {off : Int} {tgt : Nat} (hdg : decode cc pc = .ok (.if_icmp .gt off, 3)) (ht : (pc : Int) + off = (tgt : Int))
    (kt : y0 < x → J G l y cc nL d mc ms tgt ls st w Q) (kf : ¬ y0 < x → J G l y cc nL d mc ms (pc + 3) ls st w Q) : J G l y cc nL d mc ms pc ls (.int y0 :: .int x :: st) w Q :=
  fun p e R s m args below meth c Z H locs cells slots lsA hC hR hH hl hZ => lv_icmp_gt hC.1 hC.2.1 hdg ht (fun h => kt h p e R s m args below meth c Z H locs cells slots lsA hC hR hH hl hZ) (fun h => kf h p e R s m args below meth c Z H locs cells slots lsA hC hR hH hl hZ)
theorem jr_if_le {x : Int32} {off : Int} {tgt : Nat} (hdg : decode cc pc = .ok (.ifCond .le off, 3)) (ht : (pc : Int) + off = (tgt : Int))
    (kt : x ≤ 0 → J G l y cc nL d mc ms tgt ls st w Q) (kf : ¬ x ≤ 0 → J G l y cc nL d mc ms (pc + 3) ls st w Q) : J G l y cc nL d mc ms pc ls (.int x :: st) w Q :=
  fun p e R s m args below meth c Z H locs cells slots lsA hC hR hH hl hZ => lv_if_le hC.1 hC.2.1 hdg ht (fun h => kt h p e R s m args below meth c Z H locs cells slots lsA hC hR hH hl hZ) (fun h => kf h p e R s m args below meth c Z H locs cells slots lsA hC hR hH hl hZ)
theorem jr_icmp_le {x y0 : Int32} {off : Int} {tgt : Nat} (hdg : decode cc pc = .ok (.if_icmp .le off, 3)) (ht : (pc : Int) + off = (tgt : Int))
    (kt : x ≤ y0 → J G l y cc nL d mc ms tgt ls st w Q) (kf : ¬ x ≤ y0 → J G l y cc nL d mc ms (pc + 3) ls st w Q) : J G l y cc nL d mc ms pc ls (.int y0 :: .int x :: st) w Q :=
  fun p e R s m args below meth c Z H locs cells slots lsA hC hR hH hl hZ => lv_icmp_le hC.1 hC.2.1 hdg ht (fun h => kt h p e R s m args below meth c Z H locs cells slots lsA hC hR hH hl hZ) (fun h => kf h p e R s m args below meth c Z H locs cells slots lsA hC hR hH hl hZ)
theorem jr_goto {off : Int} {tgt : Nat} (hdg : decode cc pc = .ok (.goto off, 3)) (ht : (pc : Int) + off = (tgt : Int)) (k : J G l y cc nL d mc ms tgt ls st w Q) : J G l y cc nL d mc ms pc ls st w Q :=
  fun p e R s m args below meth c Z H locs cells slots lsA hC hR hH hl hZ => lv_goto hC.1 hC.2.1 hdg ht (k p e R s m args below meth c Z H locs cells slots lsA hC hR hH hl hZ)
theorem jr_lookup {dflt : Int} {ps : Array (Int × Int)} {len : Nat} {x : Int32} {off : Int} {tgt : Nat} (hdg : decode cc pc = .ok (.lookupswitch dflt ps, len)) (hp : (ps.toList.zip (ps.toList.drop 1)).all (fun (a, next) => a.1 < next.1) = true) (ho : Op.lookupswitch.offset ps.toList dflt x.toInt = off) (ht : (pc : Int) + off = (tgt : Int)) (k : J G l y cc nL d mc ms tgt ls st w Q) : J G l y cc nL d mc ms pc ls (.int x :: st) w Q :=
  fun p e R s m args below meth c Z H locs cells slots lsA hC hR hH hl hZ => lv_lookup hC.1 hC.2.1 hdg hp ho ht (k p e R s m args below meth c Z H locs cells slots lsA hC hR hH hl hZ)
theorem jr_tableOut {dflt lo hi : Int} {offs : Array Int} {len : Nat} {x : Int32} {tgt : Nat} (hdg : decode cc pc = .ok (.tableswitch dflt lo hi offs, len)) (h : x.toInt < lo ∨ hi < x.toInt) (ht : (pc : Int) + dflt = (tgt : Int)) (k : J G l y cc nL d mc ms tgt ls st w Q) : J G l y cc nL d mc ms pc ls (.int x :: st) w Q :=
  fun p e R s m args below meth c Z H locs cells slots lsA hC hR hH hl hZ => lv_tableOut hC.1 hC.2.1 hdg h ht (k p e R s m args below meth c Z H locs cells slots lsA hC hR hH hl hZ)
theorem jr_tableIn {dflt lo hi : Int} {offs : Array Int} {len : Nat} {x : Int32} {off : Int} {tgt : Nat} (hdg : decode cc pc = .ok (.tableswitch dflt lo hi offs, len)) (h1 : ¬ x.toInt < lo) (h2 : ¬ hi < x.toInt) (ho : offs[(x.toInt - lo).toNat]? = some off) (ht : (pc : Int) + off = (tgt : Int)) (k : J G l y cc nL d mc ms tgt ls st w Q) : J G l y cc nL d mc ms pc ls (.int x :: st) w Q :=
  fun p e R s m args below meth c Z H locs cells slots lsA hC hR hH hl hZ => lv_tableIn hC.1 hC.2.1 hdg h1 h2 ho ht (k p e R s m args below meth c Z H locs cells slots lsA hC hR hH hl hZ)
theorem jr_ireturn {x : Int32} (hdg : decode cc pc = .ok (.ireturn, 1)) (h : Q (some (.int x)) w) : J G l y cc nL d mc ms pc ls [.int x] w Q :=
  fun p e R s m args below meth c Z H locs cells slots lsA hC hR hH hl hZ => hZ (some (.int x)) w H locs cells slots pc lsA h (Nat.le_trans (Nat.le_add_right _ _) hR.2.2.1) (Nat.le_trans (Nat.le_add_right _ _) hR.2.2.2) hH (Or.inr (Or.inl ⟨x, rfl, hdg⟩))
theorem jr_lreturn {x : Int64} (hdg : decode cc pc = .ok (.lreturn, 1)) (h : Q (some (.long x)) w) : J G l y cc nL d mc ms pc ls [.long x] w Q :=
  fun p e R s m args below meth c Z H locs cells slots lsA hC hR hH hl hZ => hZ (some (.long x)) w H locs cells slots pc lsA h (Nat.le_trans (Nat.le_add_right _ _) hR.2.2.1) (Nat.le_trans (Nat.le_add_right _ _) hR.2.2.2) hH (Or.inr (Or.inr ⟨x, rfl, hdg⟩))
theorem jr_return (hdg : decode cc pc = .ok (.return_, 1)) (h : Q (none) w) : J G l y cc nL d mc ms pc ls [] w Q :=
  fun p e R s m args below meth c Z H locs cells slots lsA hC hR hH hl hZ => hZ (none) w H locs cells slots pc lsA h (Nat.le_trans (Nat.le_add_right _ _) hR.2.2.1) (Nat.le_trans (Nat.le_add_right _ _) hR.2.2.2) hH (Or.inl ⟨rfl, hdg⟩)
end JR

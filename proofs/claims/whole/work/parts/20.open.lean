/-! THE CLAIM OUT OF ONE WALK OF THE LAW'S BODY. Your part is whole_start (and what it stands on); all else here is the same for every law, but numbers. -/
def R_law : String := "HeaviestLastLaw"
def lw_P (b : Addr) (xs : List Int32) (args : Array Value) (s : State) : Prop := args = #[.ref b] ∧ s.IntsAt b xs ∧ xs.length ≤ 3072 ∧ (Jvm.Cond.and given_1 narrow_1).before args s = true
def lw_Q (_ : Array Value) (s : State) (o : Outcome) (t : State) : Prop := o = .returned (some (.int 1)) ∧ Framed s o t [] 600000 7302250
def lw_Z (below : List Frame) (a : Array Value) (s : State) : State → Prop := fun t => ∃ o, t.status = .running ∧ Ended t below o ∧ lw_Q a s o t
/-- the law's own end, with 1 on the stack, nothing written that was there before, its room as the claim has it -/
theorem lw_ret {p : Program} {l : Launch} {e : Env} {s : State} {m : MethodId} {below : List Frame} {meth : Method} {c : Code} {b : Nat} (hx : p.tables.exec = Jvm.exec) (hb : c.code = code) (hr : meth.sig.returnType = ret) (hlocks : meth.locks = false) {pc : Nat} {H : Heap} {ls : Array Slot} (hdg : decode code pc = .ok (.ireturn, 1)) : W p l e room_1 s m #[Value.ref b] below meth c H [] 600000 7302250 (lw_Z below #[Value.ref b] s) (F0 m pc ls [.int 1]) := by
  intro T hT X
  obtain ⟨fs, hret, hrun, hended, hW, hframe⟩ := X.leave (v := some (.int 1)) (hlocks := hlocks) (fun h => by rw [hr] at h; cases h)
  have hmeth' : T.vm.method? m = some meth := X.method'
  refine ⟨T.setFrames fs, ?_, .returned (some (.int 1)), hrun, hended, rfl, ⟨_, rfl⟩, hW, hframe⟩
  jvm_step X.here [X.here.top, hx, hb, hdg, hmeth', hr, ret, narrow_b1]
  (try refine ⟨rfl, ?_⟩); (try refine ⟨rfl, ?_⟩)
  first | (intro acts; rw [hret _ acts rfl rfl rfl]) | rw [hret _ _ rfl rfl rfl]
  exact Steps.refl _
/-- what holds at the law's entry: the machine, the code, the tables' words (any of lw_tbl by 'hts w (by decide +kernel)'), the script of L ints xs at the cell b, what the Statement gives of the start (any of its parts by flat_of_before) -/
def lw_At (p : Program) (s : State) (m : MethodId) (meth : Method) (c : Code) (b L : Nat) (xs : Nat → Int32) : Prop :=
  p.tables.exec = Jvm.exec ∧ c.code = code ∧ meth.sig.returnType = ret ∧ c.maxLocals = 4 ∧ s.vm.findClass R_law = some m.cls ∧ (∀ w ∈ lw_tbl, w.before #[Value.ref b] s = true) ∧ va_X b L xs s s.heap ∧ b < s.heap.size ∧ meth.locks = false ∧ (Jvm.Cond.and given_1 narrow_1).before #[Value.ref b] s = true

theorem st_1 {s : State} {b : Nat} (hgv : (Jvm.Cond.and given_1 narrow_1).before #[Value.ref b] s = true) (hts : ∀ w ∈ lw_tbl, w.before #[Value.ref b] s = true) {A : Nat → Prop} (hA : ∀ a : Nat, a < s.heap.size → ¬ A a) : ∃ t : Nat, va_T .int t 9 (fun j => .int (jsl1.getD j 0)) A s s.heap ∧ va_Z "HeaviestLast$Pond" "FIRST" "[I" (.ref t) A s s.heap := by
  have hs := flat_of_before _ hgv
  obtain ⟨t, h1, h2⟩ := va_Tof (s := s) (args := #[Value.ref b]) (tm := (.static "HeaviestLast$Pond" "FIRST" "[I")) (ty := .int) (N := 9) (f := fun j => .int (jsl1.getD j 0)) (A := A) (by decide) (hs (.arrayOf (.static "HeaviestLast$Pond" "FIRST" "[I") .int) (by decide +kernel)) (va_eqt (hs (.eq (.length (.static "HeaviestLast$Pond" "FIRST" "[I")) (.int (9 : Int32))) (by decide +kernel))) (fun j hj => by
    match j, hj with
    | 0, _ => exact va_eqt (hs (.eq (.elem (.static "HeaviestLast$Pond" "FIRST" "[I") (.int (0 : Int32))) (.int (30 : Int32))) (by decide +kernel))
    | 1, _ => exact va_eqt (hs (.eq (.elem (.static "HeaviestLast$Pond" "FIRST" "[I") (.int (1 : Int32))) (.int (1 : Int32))) (by decide +kernel))
    | 2, _ => exact va_eqt (hs (.eq (.elem (.static "HeaviestLast$Pond" "FIRST" "[I") (.int (2 : Int32))) (.int (0 : Int32))) (by decide +kernel))
    | 3, _ => exact va_eqt (hs (.eq (.elem (.static "HeaviestLast$Pond" "FIRST" "[I") (.int (3 : Int32))) (.int (10 : Int32))) (by decide +kernel))
    | 4, _ => exact va_eqt (hs (.eq (.elem (.static "HeaviestLast$Pond" "FIRST" "[I") (.int (4 : Int32))) (.int (1 : Int32))) (by decide +kernel))
    | 5, _ => exact va_eqt (hs (.eq (.elem (.static "HeaviestLast$Pond" "FIRST" "[I") (.int (5 : Int32))) (.int (0 : Int32))) (by decide +kernel))
    | 6, _ => exact va_eqt (hs (.eq (.elem (.static "HeaviestLast$Pond" "FIRST" "[I") (.int (6 : Int32))) (.int (5 : Int32))) (by decide +kernel))
    | 7, _ => exact va_eqt (hs (.eq (.elem (.static "HeaviestLast$Pond" "FIRST" "[I") (.int (7 : Int32))) (.int (2 : Int32))) (by decide +kernel))
    | 8, _ => exact va_eqt (hs (.eq (.elem (.static "HeaviestLast$Pond" "FIRST" "[I") (.int (8 : Int32))) (.int (999 : Int32))) (by decide +kernel))
    | n + 9, h => exact absurd h (by omega)) hA
  exact ⟨t, h2, va_Zof (hts _ (List.mem_append_right _ (List.mem_of_getElem? (i := 34) (by decide +kernel)))) (hts _ (List.mem_append_right _ (List.mem_of_getElem? (i := 2) (by decide +kernel)))) h1 hA⟩
theorem st_2 {s : State} {b : Nat} (hgv : (Jvm.Cond.and given_1 narrow_1).before #[Value.ref b] s = true) (hts : ∀ w ∈ lw_tbl, w.before #[Value.ref b] s = true) {A : Nat → Prop} (hA : ∀ a : Nat, a < s.heap.size → ¬ A a) : ∃ t : Nat, va_T .int t 9 (fun j => .int (jsl2.getD j 0)) A s s.heap ∧ va_Z "HeaviestLast$Pond" "LEAST" "[I" (.ref t) A s s.heap := by
  have hs := flat_of_before _ hgv
  obtain ⟨t, h1, h2⟩ := va_Tof (s := s) (args := #[Value.ref b]) (tm := (.static "HeaviestLast$Pond" "LEAST" "[I")) (ty := .int) (N := 9) (f := fun j => .int (jsl2.getD j 0)) (A := A) (by decide) (hs (.arrayOf (.static "HeaviestLast$Pond" "LEAST" "[I") .int) (by decide +kernel)) (va_eqt (hs (.eq (.length (.static "HeaviestLast$Pond" "LEAST" "[I")) (.int (9 : Int32))) (by decide +kernel))) (fun j hj => by
    match j, hj with
    | 0, _ => exact va_eqt (hs (.eq (.elem (.static "HeaviestLast$Pond" "LEAST" "[I") (.int (0 : Int32))) (.int (0 : Int32))) (by decide +kernel))
    | 1, _ => exact va_eqt (hs (.eq (.elem (.static "HeaviestLast$Pond" "LEAST" "[I") (.int (1 : Int32))) (.int (0 : Int32))) (by decide +kernel))
    | 2, _ => exact va_eqt (hs (.eq (.elem (.static "HeaviestLast$Pond" "LEAST" "[I") (.int (2 : Int32))) (.int (0 : Int32))) (by decide +kernel))
    | 3, _ => exact va_eqt (hs (.eq (.elem (.static "HeaviestLast$Pond" "LEAST" "[I") (.int (3 : Int32))) (.int (0 : Int32))) (by decide +kernel))
    | 4, _ => exact va_eqt (hs (.eq (.elem (.static "HeaviestLast$Pond" "LEAST" "[I") (.int (4 : Int32))) (.int (1 : Int32))) (by decide +kernel))
    | 5, _ => exact va_eqt (hs (.eq (.elem (.static "HeaviestLast$Pond" "LEAST" "[I") (.int (5 : Int32))) (.int (0 : Int32))) (by decide +kernel))
    | 6, _ => exact va_eqt (hs (.eq (.elem (.static "HeaviestLast$Pond" "LEAST" "[I") (.int (6 : Int32))) (.int (0 : Int32))) (by decide +kernel))
    | 7, _ => exact va_eqt (hs (.eq (.elem (.static "HeaviestLast$Pond" "LEAST" "[I") (.int (7 : Int32))) (.int (1 : Int32))) (by decide +kernel))
    | 8, _ => exact va_eqt (hs (.eq (.elem (.static "HeaviestLast$Pond" "LEAST" "[I") (.int (8 : Int32))) (.int (0 : Int32))) (by decide +kernel))
    | n + 9, h => exact absurd h (by omega)) hA
  exact ⟨t, h2, va_Zof (hts _ (List.mem_append_right _ (List.mem_of_getElem? (i := 370) (by decide +kernel)))) (hts _ (List.mem_append_right _ (List.mem_of_getElem? (i := 2) (by decide +kernel)))) h1 hA⟩
theorem st_3 {s : State} {b : Nat} (hgv : (Jvm.Cond.and given_1 narrow_1).before #[Value.ref b] s = true) (hts : ∀ w ∈ lw_tbl, w.before #[Value.ref b] s = true) {A : Nat → Prop} (hA : ∀ a : Nat, a < s.heap.size → ¬ A a) : ∃ t : Nat, va_T .int t 9 (fun j => .int (jsl3.getD j 0)) A s s.heap ∧ va_Z "HeaviestLast$Pond" "MOST" "[I" (.ref t) A s s.heap := by
  have hs := flat_of_before _ hgv
  obtain ⟨t, h1, h2⟩ := va_Tof (s := s) (args := #[Value.ref b]) (tm := (.static "HeaviestLast$Pond" "MOST" "[I")) (ty := .int) (N := 9) (f := fun j => .int (jsl3.getD j 0)) (A := A) (by decide) (hs (.arrayOf (.static "HeaviestLast$Pond" "MOST" "[I") .int) (by decide +kernel)) (va_eqt (hs (.eq (.length (.static "HeaviestLast$Pond" "MOST" "[I")) (.int (9 : Int32))) (by decide +kernel))) (fun j hj => by
    match j, hj with
    | 0, _ => exact va_eqt (hs (.eq (.elem (.static "HeaviestLast$Pond" "MOST" "[I") (.int (0 : Int32))) (.int (99 : Int32))) (by decide +kernel))
    | 1, _ => exact va_eqt (hs (.eq (.elem (.static "HeaviestLast$Pond" "MOST" "[I") (.int (1 : Int32))) (.int (9 : Int32))) (by decide +kernel))
    | 2, _ => exact va_eqt (hs (.eq (.elem (.static "HeaviestLast$Pond" "MOST" "[I") (.int (2 : Int32))) (.int (12 : Int32))) (by decide +kernel))
    | 3, _ => exact va_eqt (hs (.eq (.elem (.static "HeaviestLast$Pond" "MOST" "[I") (.int (3 : Int32))) (.int (99 : Int32))) (by decide +kernel))
    | 4, _ => exact va_eqt (hs (.eq (.elem (.static "HeaviestLast$Pond" "MOST" "[I") (.int (4 : Int32))) (.int (60 : Int32))) (by decide +kernel))
    | 5, _ => exact va_eqt (hs (.eq (.elem (.static "HeaviestLast$Pond" "MOST" "[I") (.int (5 : Int32))) (.int (1 : Int32))) (by decide +kernel))
    | 6, _ => exact va_eqt (hs (.eq (.elem (.static "HeaviestLast$Pond" "MOST" "[I") (.int (6 : Int32))) (.int (60 : Int32))) (by decide +kernel))
    | 7, _ => exact va_eqt (hs (.eq (.elem (.static "HeaviestLast$Pond" "MOST" "[I") (.int (7 : Int32))) (.int (9 : Int32))) (by decide +kernel))
    | 8, _ => exact va_eqt (hs (.eq (.elem (.static "HeaviestLast$Pond" "MOST" "[I") (.int (8 : Int32))) (.int (999 : Int32))) (by decide +kernel))
    | n + 9, h => exact absurd h (by omega)) hA
  exact ⟨t, h2, va_Zof (hts _ (List.mem_append_right _ (List.mem_of_getElem? (i := 372) (by decide +kernel)))) (hts _ (List.mem_append_right _ (List.mem_of_getElem? (i := 2) (by decide +kernel)))) h1 hA⟩
theorem st_4 {s : State} {b : Nat} (hgv : (Jvm.Cond.and given_1 narrow_1).before #[Value.ref b] s = true) (hts : ∀ w ∈ lw_tbl, w.before #[Value.ref b] s = true) {A : Nat → Prop} (hA : ∀ a : Nat, a < s.heap.size → ¬ A a) : ∃ t : Nat, va_T .int t 32 (fun j => .int (jsl4.getD j 0)) A s s.heap ∧ va_Z "HeaviestLast$Acts" "BODIES" "[I" (.ref t) A s s.heap := by
  have hs := flat_of_before _ hgv
  obtain ⟨t, h1, h2⟩ := va_Tof (s := s) (args := #[Value.ref b]) (tm := (.static "HeaviestLast$Acts" "BODIES" "[I")) (ty := .int) (N := 32) (f := fun j => .int (jsl4.getD j 0)) (A := A) (by decide) (hs (.arrayOf (.static "HeaviestLast$Acts" "BODIES" "[I") .int) (by decide +kernel)) (va_eqt (hs (.eq (.length (.static "HeaviestLast$Acts" "BODIES" "[I")) (.int (32 : Int32))) (by decide +kernel))) (fun j hj => by
    match j, hj with
    | 0, _ => exact va_eqt (hs (.eq (.elem (.static "HeaviestLast$Acts" "BODIES" "[I") (.int (0 : Int32))) (.int (1 : Int32))) (by decide +kernel))
    | 1, _ => exact va_eqt (hs (.eq (.elem (.static "HeaviestLast$Acts" "BODIES" "[I") (.int (1 : Int32))) (.int (10 : Int32))) (by decide +kernel))
    | 2, _ => exact va_eqt (hs (.eq (.elem (.static "HeaviestLast$Acts" "BODIES" "[I") (.int (2 : Int32))) (.int (11 : Int32))) (by decide +kernel))
    | 3, _ => exact va_eqt (hs (.eq (.elem (.static "HeaviestLast$Acts" "BODIES" "[I") (.int (3 : Int32))) (.int (2 : Int32))) (by decide +kernel))
    | 4, _ => exact va_eqt (hs (.eq (.elem (.static "HeaviestLast$Acts" "BODIES" "[I") (.int (4 : Int32))) (.int (20 : Int32))) (by decide +kernel))
    | 5, _ => exact va_eqt (hs (.eq (.elem (.static "HeaviestLast$Acts" "BODIES" "[I") (.int (5 : Int32))) (.int (0 : Int32))) (by decide +kernel))
    | 6, _ => exact va_eqt (hs (.eq (.elem (.static "HeaviestLast$Acts" "BODIES" "[I") (.int (6 : Int32))) (.int (0 : Int32))) (by decide +kernel))
    | 7, _ => exact va_eqt (hs (.eq (.elem (.static "HeaviestLast$Acts" "BODIES" "[I") (.int (7 : Int32))) (.int (0 : Int32))) (by decide +kernel))
    | 8, _ => exact va_eqt (hs (.eq (.elem (.static "HeaviestLast$Acts" "BODIES" "[I") (.int (8 : Int32))) (.int (0 : Int32))) (by decide +kernel))
    | 9, _ => exact va_eqt (hs (.eq (.elem (.static "HeaviestLast$Acts" "BODIES" "[I") (.int (9 : Int32))) (.int (30 : Int32))) (by decide +kernel))
    | 10, _ => exact va_eqt (hs (.eq (.elem (.static "HeaviestLast$Acts" "BODIES" "[I") (.int (10 : Int32))) (.int (0 : Int32))) (by decide +kernel))
    | 11, _ => exact va_eqt (hs (.eq (.elem (.static "HeaviestLast$Acts" "BODIES" "[I") (.int (11 : Int32))) (.int (0 : Int32))) (by decide +kernel))
    | 12, _ => exact va_eqt (hs (.eq (.elem (.static "HeaviestLast$Acts" "BODIES" "[I") (.int (12 : Int32))) (.int (0 : Int32))) (by decide +kernel))
    | 13, _ => exact va_eqt (hs (.eq (.elem (.static "HeaviestLast$Acts" "BODIES" "[I") (.int (13 : Int32))) (.int (41 : Int32))) (by decide +kernel))
    | 14, _ => exact va_eqt (hs (.eq (.elem (.static "HeaviestLast$Acts" "BODIES" "[I") (.int (14 : Int32))) (.int (40 : Int32))) (by decide +kernel))
    | 15, _ => exact va_eqt (hs (.eq (.elem (.static "HeaviestLast$Acts" "BODIES" "[I") (.int (15 : Int32))) (.int (0 : Int32))) (by decide +kernel))
    | 16, _ => exact va_eqt (hs (.eq (.elem (.static "HeaviestLast$Acts" "BODIES" "[I") (.int (16 : Int32))) (.int (0 : Int32))) (by decide +kernel))
    | 17, _ => exact va_eqt (hs (.eq (.elem (.static "HeaviestLast$Acts" "BODIES" "[I") (.int (17 : Int32))) (.int (0 : Int32))) (by decide +kernel))
    | 18, _ => exact va_eqt (hs (.eq (.elem (.static "HeaviestLast$Acts" "BODIES" "[I") (.int (18 : Int32))) (.int (50 : Int32))) (by decide +kernel))
    | 19, _ => exact va_eqt (hs (.eq (.elem (.static "HeaviestLast$Acts" "BODIES" "[I") (.int (19 : Int32))) (.int (0 : Int32))) (by decide +kernel))
    | 20, _ => exact va_eqt (hs (.eq (.elem (.static "HeaviestLast$Acts" "BODIES" "[I") (.int (20 : Int32))) (.int (0 : Int32))) (by decide +kernel))
    | 21, _ => exact va_eqt (hs (.eq (.elem (.static "HeaviestLast$Acts" "BODIES" "[I") (.int (21 : Int32))) (.int (0 : Int32))) (by decide +kernel))
    | 22, _ => exact va_eqt (hs (.eq (.elem (.static "HeaviestLast$Acts" "BODIES" "[I") (.int (22 : Int32))) (.int (0 : Int32))) (by decide +kernel))
    | 23, _ => exact va_eqt (hs (.eq (.elem (.static "HeaviestLast$Acts" "BODIES" "[I") (.int (23 : Int32))) (.int (60 : Int32))) (by decide +kernel))
    | 24, _ => exact va_eqt (hs (.eq (.elem (.static "HeaviestLast$Acts" "BODIES" "[I") (.int (24 : Int32))) (.int (70 : Int32))) (by decide +kernel))
    | 25, _ => exact va_eqt (hs (.eq (.elem (.static "HeaviestLast$Acts" "BODIES" "[I") (.int (25 : Int32))) (.int (0 : Int32))) (by decide +kernel))
    | 26, _ => exact va_eqt (hs (.eq (.elem (.static "HeaviestLast$Acts" "BODIES" "[I") (.int (26 : Int32))) (.int (0 : Int32))) (by decide +kernel))
    | 27, _ => exact va_eqt (hs (.eq (.elem (.static "HeaviestLast$Acts" "BODIES" "[I") (.int (27 : Int32))) (.int (0 : Int32))) (by decide +kernel))
    | 28, _ => exact va_eqt (hs (.eq (.elem (.static "HeaviestLast$Acts" "BODIES" "[I") (.int (28 : Int32))) (.int (0 : Int32))) (by decide +kernel))
    | 29, _ => exact va_eqt (hs (.eq (.elem (.static "HeaviestLast$Acts" "BODIES" "[I") (.int (29 : Int32))) (.int (80 : Int32))) (by decide +kernel))
    | 30, _ => exact va_eqt (hs (.eq (.elem (.static "HeaviestLast$Acts" "BODIES" "[I") (.int (30 : Int32))) (.int (0 : Int32))) (by decide +kernel))
    | 31, _ => exact va_eqt (hs (.eq (.elem (.static "HeaviestLast$Acts" "BODIES" "[I") (.int (31 : Int32))) (.int (81 : Int32))) (by decide +kernel))
    | n + 32, h => exact absurd h (by omega)) hA
  exact ⟨t, h2, va_Zof (hts _ (List.mem_append_right _ (List.mem_of_getElem? (i := 934) (by decide +kernel)))) (hts _ (List.mem_append_right _ (List.mem_of_getElem? (i := 13) (by decide +kernel)))) h1 hA⟩
theorem st_5 {s : State} {b : Nat} (hgv : (Jvm.Cond.and given_1 narrow_1).before #[Value.ref b] s = true) (hts : ∀ w ∈ lw_tbl, w.before #[Value.ref b] s = true) {A : Nat → Prop} (hA : ∀ a : Nat, a < s.heap.size → ¬ A a) : ∃ t : Nat, va_T .int t 8 (fun j => .int (jsl5.getD j 0)) A s s.heap ∧ va_Z "HeaviestLast$Acts" "ABOVE" "[I" (.ref t) A s s.heap := by
  have hs := flat_of_before _ hgv
  obtain ⟨t, h1, h2⟩ := va_Tof (s := s) (args := #[Value.ref b]) (tm := (.static "HeaviestLast$Acts" "ABOVE" "[I")) (ty := .int) (N := 8) (f := fun j => .int (jsl5.getD j 0)) (A := A) (by decide) (hs (.arrayOf (.static "HeaviestLast$Acts" "ABOVE" "[I") .int) (by decide +kernel)) (va_eqt (hs (.eq (.length (.static "HeaviestLast$Acts" "ABOVE" "[I")) (.int (8 : Int32))) (by decide +kernel))) (fun j hj => by
    match j, hj with
    | 0, _ => exact va_eqt (hs (.eq (.elem (.static "HeaviestLast$Acts" "ABOVE" "[I") (.int (0 : Int32))) (.int (-1 : Int32))) (by decide +kernel))
    | 1, _ => exact va_eqt (hs (.eq (.elem (.static "HeaviestLast$Acts" "ABOVE" "[I") (.int (1 : Int32))) (.int (0 : Int32))) (by decide +kernel))
    | 2, _ => exact va_eqt (hs (.eq (.elem (.static "HeaviestLast$Acts" "ABOVE" "[I") (.int (2 : Int32))) (.int (0 : Int32))) (by decide +kernel))
    | 3, _ => exact va_eqt (hs (.eq (.elem (.static "HeaviestLast$Acts" "ABOVE" "[I") (.int (3 : Int32))) (.int (2 : Int32))) (by decide +kernel))
    | 4, _ => exact va_eqt (hs (.eq (.elem (.static "HeaviestLast$Acts" "ABOVE" "[I") (.int (4 : Int32))) (.int (1 : Int32))) (by decide +kernel))
    | 5, _ => exact va_eqt (hs (.eq (.elem (.static "HeaviestLast$Acts" "ABOVE" "[I") (.int (5 : Int32))) (.int (3 : Int32))) (by decide +kernel))
    | 6, _ => exact va_eqt (hs (.eq (.elem (.static "HeaviestLast$Acts" "ABOVE" "[I") (.int (6 : Int32))) (.int (0 : Int32))) (by decide +kernel))
    | 7, _ => exact va_eqt (hs (.eq (.elem (.static "HeaviestLast$Acts" "ABOVE" "[I") (.int (7 : Int32))) (.int (4 : Int32))) (by decide +kernel))
    | n + 8, h => exact absurd h (by omega)) hA
  exact ⟨t, h2, va_Zof (hts _ (List.mem_append_right _ (List.mem_of_getElem? (i := 939) (by decide +kernel)))) (hts _ (List.mem_append_right _ (List.mem_of_getElem? (i := 13) (by decide +kernel)))) h1 hA⟩
theorem jKn {s : State} {args : Array Value} (hts : ∀ w ∈ jWS, w.before args s = true) : ∃ D : va_G, ∀ (c : Nat) (q : vw_C), vwCl[c]? = some q → u_Kn s q.1 q.2.1 q.2.2 (D.1 c) (D.2 c) := by
  have h : ∀ c : Nat, ∃ (cC : ClassId) (iS : Nat → Nat), ∀ q : vw_C, vwCl[c]? = some q → u_Kn s q.1 q.2.1 q.2.2 cC iS := fun c => match c with
    | 0 => by
      obtain ⟨cC, iS, h⟩ := u_known (C := RX0) (T := TX0) (N := 5) (n := 5) hts wc_X0.2.1 (hts _ in_X0)
      exact ⟨cC, iS, fun q hq => by cases hq; exact h⟩
    | 1 => by
      obtain ⟨cC, iS, h⟩ := u_known (C := RX1) (T := TX1) (N := 5) (n := 5) hts wc_X1.2.1 (hts _ in_X1)
      exact ⟨cC, iS, fun q hq => by cases hq; exact h⟩
    | 2 => by
      obtain ⟨cC, iS, h⟩ := u_known (C := RX2) (T := TX2) (N := 6) (n := 6) hts wc_X2.2.1 (hts _ in_X2)
      exact ⟨cC, iS, fun q hq => by cases hq; exact h⟩
    | 3 => by
      obtain ⟨cC, iS, h⟩ := u_known (C := RX3) (T := TX3) (N := 6) (n := 6) hts wc_X3.2.1 (hts _ in_X3)
      exact ⟨cC, iS, fun q hq => by cases hq; exact h⟩
    | 4 => by
      obtain ⟨cC, iS, h⟩ := u_known (C := RX4) (T := TX4) (N := 6) (n := 6) hts wc_X4.2.1 (hts _ in_X4)
      exact ⟨cC, iS, fun q hq => by cases hq; exact h⟩
    | 5 => by
      obtain ⟨cC, iS, h⟩ := u_known (C := RX5) (T := TX5) (N := 3) (n := 3) hts wc_X5.2.1 (hts _ in_X5)
      exact ⟨cC, iS, fun q hq => by cases hq; exact h⟩
    | 6 => by
      obtain ⟨cC, iS, h⟩ := u_known (C := RX6) (T := TX6) (N := 10) (n := 10) hts wc_X6.2.1 (hts _ in_X6)
      exact ⟨cC, iS, fun q hq => by cases hq; exact h⟩
    | 7 => by
      obtain ⟨cC, iS, h⟩ := u_known (C := RX7) (T := TX7) (N := 2) (n := 2) hts wc_X7.2.1 (hts _ in_X7)
      exact ⟨cC, iS, fun q hq => by cases hq; exact h⟩
    | 8 => by
      obtain ⟨cC, iS, h⟩ := u_known (C := RX8) (T := TX8) (N := 7) (n := 7) hts wc_X8.2.1 (hts _ in_X8)
      exact ⟨cC, iS, fun q hq => by cases hq; exact h⟩
    | 9 => by
      obtain ⟨cC, iS, h⟩ := u_known (C := RX9) (T := TX9) (N := 4) (n := 4) hts wc_X9.2.1 (hts _ in_X9)
      exact ⟨cC, iS, fun q hq => by cases hq; exact h⟩
    | 10 => by
      obtain ⟨cC, iS, h⟩ := u_known (C := RX10) (T := TX10) (N := 8) (n := 8) hts wc_X10.2.1 (hts _ in_X10)
      exact ⟨cC, iS, fun q hq => by cases hq; exact h⟩
    | 11 => by
      obtain ⟨cC, iS, h⟩ := u_known (C := RX11) (T := TX11) (N := 10) (n := 10) hts wc_X11.2.1 (hts _ in_X11)
      exact ⟨cC, iS, fun q hq => by cases hq; exact h⟩
    | 12 => by
      obtain ⟨cC, iS, h⟩ := u_known (C := RX12) (T := TX12) (N := 53) (n := 53) hts wc_X12.2.1 (hts _ in_X12)
      exact ⟨cC, iS, fun q hq => by cases hq; exact h⟩
    | n + 13 => ⟨0, fun _ => 0, fun q hq => by have := (List.getElem?_eq_some_iff.mp hq).1; exact absurd this (by show ¬ n + 13 < 13; omega)⟩
  exact ⟨(fun c => Classical.choose (h c), fun c => Classical.choose (Classical.choose_spec (h c))), fun c q hq => Classical.choose_spec (Classical.choose_spec (h c)) q hq⟩
theorem jar {s : State} {args : Array Value} {ty : FieldType} (h : (Cond.arrayClass ty).before args s = true) : ∃ cA : ClassId, ArrOfT s cA ty ∧ s.vm.findClass ("[" ++ ty.toString) = some cA := by
  obtain ⟨cA, kA, comp, h1, h2, h3⟩ := Cond.arrayClass_spec h
  exact ⟨cA, fun n z => ⟨fun k h => (by cases h), kA, h2, comp, h3⟩, h1⟩
theorem jar2 {s : State} {args : Array Value} {ty : FieldType} (h : (Cond.arrayOver (.array ty)).before args s = true) : ∃ cA : ClassId, ArrOfT s cA (.array ty) ∧ s.vm.findClass ("[" ++ (FieldType.array ty).toString) = some cA := by
  obtain ⟨comp, c, k, h1, h2, h3, h4⟩ := Cond.arrayOver_specA h
  exact ⟨c, fun n z => ⟨fun k h => (by cases h), k, h2, comp, h3⟩, h4⟩
set_option maxRecDepth 100000 in
set_option maxHeartbeats 4000000 in
theorem whole_open {p : Program} {e : Env} {s : State} {m : MethodId} {below : List Frame} {meth : Method} {c : Code} (l : Launch) {b L : Nat} {xs : Nat → Int32} (hL : L ≤ 3072) (C0 : lw_At p s m meth c b L xs)
    (pure : ∀ G : jG, jSt G → G.2.2.2.2 0 = (L, xs) → ∃ n, wL_law_18 G l 2000 (fun v _ _ => v = some (.int 1)) n 0 jI0 jL0) : W p l e room_1 s m #[Value.ref b] below meth c s.heap [] 0 0 (lw_Z below #[Value.ref b] s) (entryFrame m ([Value.ref b] : List Value).toArray 4) := by
  obtain ⟨hx, hb, hr, hml, hown, hts, hX, hbl, hlocks, hgv⟩ := C0
  have hws : ∀ w ∈ jWS, w.before #[Value.ref b] s = true := fun w h => hts w (List.mem_filter.mp h).1
  obtain ⟨D, hD⟩ := jKn hws
  obtain ⟨c0, a0, n0⟩ := jar (hws _ wa_int)
  obtain ⟨c1, a1, n1⟩ := jar (hws _ wa_long)
  obtain ⟨c4, a4, n4⟩ := jar (hws _ wa_boolean)
  have ho1 := hts (.arrayOver (.array .int)) (List.mem_append_right _ (List.mem_of_getElem? (i := 32) (by decide +kernel)))
  have ho2 := hts (.arrayOver (.array .long)) (List.mem_append_right _ (List.mem_of_getElem? (i := 290) (by decide +kernel)))
  obtain ⟨c2, a2, n2⟩ := jar2 ho1
  obtain ⟨c3, a3, n3⟩ := jar2 ho2
  have hA : ∀ a : Nat, a < s.heap.size → ¬ (s.heap.size ≤ a) := fun a h => by omega
  obtain ⟨t1, v1, z1⟩ := st_1 hgv hts (A := fun q => s.heap.size ≤ q) hA
  obtain ⟨t2, v2, z2⟩ := st_2 hgv hts (A := fun q => s.heap.size ≤ q) hA
  obtain ⟨t3, v3, z3⟩ := st_3 hgv hts (A := fun q => s.heap.size ≤ q) hA
  obtain ⟨t4, v4, z4⟩ := st_4 hgv hts (A := fun q => s.heap.size ≤ q) hA
  obtain ⟨t5, v5, z5⟩ := st_5 hgv hts (A := fun q => s.heap.size ≤ q) hA
  obtain ⟨scr, q1, q2, q3, q4, q5⟩ := hX
  have v0 : va_T .int b L (fun j => .int (xs j)) (fun q => s.heap.size ≤ q) s s.heap := ⟨scr, q1, q2, q3, Nat.le_of_eq q4.symm, (by rw [q4] <;> rfl), q5, fun h => by omega⟩
  generalize hG : ((D, (fun k => if k = 0 then c0 else if k = 1 then c1 else if k = 2 then c2 else if k = 3 then c3 else c4), s.heap.size, (fun r => if r = 0 then b else if r = 1 then t1 else if r = 2 then t2 else if r = 3 then t3 else if r = 4 then t4 else t5), (fun r => if r = 0 then (L, xs) else if r = 1 then (9, fun j => jsl1.getD j 0) else if r = 2 then (9, fun j => jsl2.getD j 0) else if r = 3 then (9, fun j => jsl3.getD j 0) else if r = 4 then (32, fun j => jsl4.getD j 0) else (8, fun j => jsl5.getD j 0))) : jG) = G
  have hE : jE G s := by
    subst hG
    refine ⟨⟨hD, fun k q hk => ?_⟩, Nat.le_refl _, fun r hr => ?_, fun q hq => ?_, fun w hw => ?_⟩
    · match k, hk with
      | 0, hk => cases hk; exact ⟨a0, n0⟩
      | 1, hk => cases hk; exact ⟨a1, n1⟩
      | 2, hk => cases hk; exact ⟨a2, n2⟩
      | 3, hk => cases hk; exact ⟨a3, n3⟩
      | 4, hk => cases hk; exact ⟨a4, n4⟩
      | n + 5, hk => cases hk
    · match r, hr with
      | 0, _ => exact v0
      | 1, _ => exact v1
      | 2, _ => exact v2
      | 3, _ => exact v3
      | 4, _ => exact v4
      | 5, _ => exact v5
      | n + 6, h => exact absurd h (by omega)
    · simp only [jStat, List.mem_cons, List.not_mem_nil, or_false] at hq
      rcases hq with rfl | rfl | rfl | rfl | rfl
      · exact z1
      · exact z2
      · exact z3
      · exact z4
      · exact z5
    · simp only [jNest, List.mem_cons, List.not_mem_nil, or_false] at hw
      rcases hw with rfl | rfl | rfl | rfl | rfl | rfl | rfl
      · exact va_Nw.of rfl (hts _ (List.mem_append_right _ (List.mem_of_getElem? (i := 396) (by decide +kernel))))
      · exact va_Nw.of rfl (hts _ (List.mem_append_right _ (List.mem_of_getElem? (i := 458) (by decide +kernel))))
      · exact va_Nw.of rfl (hts _ (List.mem_append_right _ (List.mem_of_getElem? (i := 463) (by decide +kernel))))
      · exact va_Nw.of rfl (hts _ (List.mem_append_right _ (List.mem_of_getElem? (i := 715) (by decide +kernel))))
      · exact va_Nw.of rfl (hts _ (List.mem_append_right _ (List.mem_of_getElem? (i := 932) (by decide +kernel))))
      · exact ho1
      · exact ho2
  have hst : jSt G := by subst hG; exact ⟨rfl, rfl, rfl, rfl, rfl⟩
  have h0 : G.2.2.2.2 0 = (L, xs) := by subst hG; rfl
  have hsz : G.2.2.1 = s.heap.size := by subst hG; rfl
  have hb0 : jad G 1000 = b := by subst hG; rfl
  have hF : jFst G := fun i hi => by
    rw [hst.1]
    refine ⟨jofnat_in hi (by decide), ?_⟩
    rfl
  have hJ := law_J hF (pure G hst h0)
  have hl := lv_entry ([Value.ref b]) (n := 4) (Nat.le_of_ble_eq_true rfl)
  rw [lg_entry_eq]
  generalize (lg_sl [Value.ref b] ++ List.replicate (4 - (lg_sl [Value.ref b]).length) Slot.unset).toArray = lsA at hl ⊢
  refine hJ p e room_1 s m #[Value.ref b] below meth c _ s.heap [] 0 0 lsA ⟨hx, hb, hml, hown, hws, hE, fun h => absurd h (by decide)⟩ ⟨by decide, by decide, by decide, by decide⟩ ⟨⟨fun k q hk => (by cases hk), ⟨fun i j x y hi => (by cases hi), fun k q hk => (by cases hk)⟩, fun _ => hsz.symm, by decide⟩, va_S.rf⟩ (by show lv_has lsA 4 [(0, .ref (jad G 1000))]; rw [hb0]; exact hl) ?_
  intro v w' H' locs' cells' slots' pc' lsA' hQ hc1 hc2 hH' hret
  obtain ⟨-, I', L', rfl, hv⟩ := hQ
  subst hv
  rcases hret with ⟨h, -⟩ | ⟨x, h, hdg⟩ | ⟨x, h, -⟩
  · cases h
  · cases h
    refine va_forget (fun q hq => ?_) (W.widen hc1 hc2 (lw_ret hx hb hr hlocks hdg))
    have h9 := hH'.2.2.2 q hq
    rw [← hsz]
    exact h9
  · cases h

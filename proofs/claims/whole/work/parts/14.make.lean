/-! making cells: new, newarray, multianewarray, constructors -/
theorem jws_push {G : jG} {ks : jK} {I : jS} {L : jL} {R : jR} {q : Nat × Nat} : jws G (ks ++ [q], I, L, R) = jws G (ks, I, L, R) ++ [(jad G ks.length, jent G I L R ks.length q)] := by
  unfold jws
  simp only [List.length_append, List.length_cons, List.length_nil, Nat.zero_add, List.range_succ, List.map_append, List.map_cons, List.map_nil]
  congr 1
  · apply List.map_congr_left
    intro r hr
    have hr := List.mem_range.mp hr
    rw [List.getD_eq_getElem?_getD, List.getD_eq_getElem?_getD, List.getElem?_append_left hr]
  · rw [List.getD_eq_getElem?_getD, List.getElem?_append_right (Nat.le_refl _), Nat.sub_self]
    rfl
theorem jad_lt {G : jG} {n : Nat} (h : n < 1000) : jad G n = G.2.2.1 + n := by unfold jad; rw [if_pos h]
section JN
variable {G : jG} {l : Launch} {y : MethodName} {cc : ByteArray} {nL d mc ms pc : Nat} {ls : List (Option Value)} {st : List Value} {ks : jK} {I : jS} {L : jL} {R : jR} {Q : Option Value → jW → Prop}
theorem jH_push {s : State} {H H1 : Heap} {locs : List Loc} {q : Nat × Nat} (hE : G.2.2.1 ≤ s.heap.size) (hH : jH G (ks, I, L, R) s H locs) (hN : ks.length < jN) (hat : va_at G.1 vwCl (jad G ks.length, jent G I L R ks.length q) H1) (hz : H1.size = H.size + 1) (oq : ∀ x, x < H.size → H1[x]? = H[x]?) : jH G (ks ++ [q], I, L, R) s H1 locs := by
  obtain ⟨⟨hP, hD, hsz, hl⟩, hS⟩ := hH
  have hn : ks.length < 1000 := Nat.lt_trans hN (by decide)
  have hs : H.size = G.2.2.1 + ks.length := hsz hN
  have ha : jad G ks.length = H.size := by rw [jad_lt hn, hs]
  have hk : ∀ (k : Nat) (x : Nat × va_E), (jws G (ks, I, L, R))[k]? = some x → H1[x.1]? = H[x.1]? := fun k x hx => oq x.1 ((hP k x hx).lt)
  refine ⟨⟨?_, ?_, ?_, ?_⟩, ?_⟩
  · rw [jws_push]
    refine (hP.kept hk).app (fun k x hx => ?_)
    have hz : k < 1 := (List.getElem?_eq_some_iff.mp hx).1
    rw [show k = 0 by omega] at hx
    cases hx
    exact hat
  · rw [jws_push]
    exact hD.push hP ha (by show G.2.2.1 ≤ _; rw [jad_lt hn]; omega)
  · intro h
    show H1.size = G.2.2.1 + (ks ++ [q]).length
    rw [List.length_append, List.length_cons, List.length_nil, hz, hs]
    omega
  · show (ks ++ [q]).length ≤ 1000
    rw [List.length_append, List.length_cons, List.length_nil]
    omega
  · exact ⟨Nat.le_trans hS.1 (by omega), fun x h1 h2 => (oq x (Nat.lt_of_lt_of_le h1 hS.1)).trans (hS.2.1 x h1 h2), hS.2.2⟩
theorem jr_new {index ci N n : Nat} {C : String} {T : u_T} {ty : Nat → FieldType} (hc : jCl ci C T N ty) (h20 : ci < 20) (hlk : Cond.classLink y.cls index C ∈ jWS) (hins : Cond.instantiable C N ∈ jWS) (hini : Cond.initialized C ∈ jWS) (hn : ks.length = n) (hN : n < jN) (h0 : ∀ i, i < N → jsv G I L R n ci i = defaultValue (ty i)) (hdg : decode cc pc = .ok (.new index, 3))
    (k : J G l y cc nL d mc ms (pc + 3) ls (.ref n :: st) (ks ++ [(ci, N)], I, L, R) Q) : J G l y cc nL d (1 + mc) (N + ms) pc ls st (ks, I, L, R) Q := by
  subst hn
  intro p e Rm s m args below meth c Z H locs cells slots lsA hC hR hH hl hZ
  have hts := hC.2.2.2.2.1
  have hK := hC.2.2.2.2.2.1.1
  have hKn := hK.1 ci _ hc.1
  have hs : H.size = G.2.2.1 + ks.length := hH.1.2.2.1 hN
  have hn : ks.length < 1000 := Nat.lt_trans hN (by decide)
  have ha : jad G ks.length = H.size := by rw [jad_lt hn, hs]
  refine W.newcK hC.1 hC.2.1 hC.2.2.2.1 (hts _ hlk) (hts _ hins) (hts _ hini) rfl hdg (by have := hR.2.2.1; omega) (by have := hR.2.2.2; omega) hKn.2.1 rfl fun H1 kC hkC e1 z1 o1 => ?_
  have hat : va_at G.1 vwCl (jad G ks.length, jent G I L R ks.length (ci, N)) H1 := by
    rw [jent_obj h20, ha]
    refine ⟨_, hc.1, (u_born ty hts hc.2.1 hKn hkC e1 hc.2.2.1).to (fun j hj => ?_)⟩
    rw [← h0 j hj]
    show _ = ((List.range N).map (jsv G I L R ks.length ci)).getD j .null
    rw [List.getD_eq_getElem?_getD, jsv_at hj]
    rfl
  refine W.eq (g2 := F0 m (pc + 3) lsA (.ref (jad G ks.length) :: st.map (jcv G))) (by rw [ha]) ?_
  exact k p e Rm s m args below meth c Z H1 locs (cells + 1) (slots + N) lsA hC ⟨hR.1, hR.2.1, by have := hR.2.2.1; omega, by have := hR.2.2.2; omega⟩ (jH_push hC.2.2.2.2.2.1.2.1 hH hN hat z1 o1) hl hZ
theorem jr_newarr_i {n : Int32} {N k0 : Nat} (harr : Cond.arrayClass .int ∈ jWS) (hn : ¬ n < 0) (hN : n.toNatClampNeg = N) (hb : N ≤ 1000) (hk0 : ks.length = k0) (hlt : k0 < jN) (h0 : I k0 = fun _ => 0) (hdg : decode cc pc = .ok (.newarray .int, 2))
    (k : J G l y cc nL d mc ms (pc + 2) ls (.ref k0 :: st) (ks ++ [(20, N)], I, L, R) Q) : J G l y cc nL d (1 + mc) (N + ms) pc ls (.int n :: st) (ks, I, L, R) Q := by
  subst hk0
  intro p e Rm s m args below meth c Z H locs cells slots lsA hC hR hH hl hZ
  have hts := hC.2.2.2.2.1
  have hK := hC.2.2.2.2.2.1.1
  have hs : H.size = G.2.2.1 + ks.length := hH.1.2.2.1 hlt
  have hn1 : ks.length < 1000 := Nat.lt_trans hlt (by decide)
  have ha : jad G ks.length = H.size := by rw [jad_lt hn1, hs]
  refine va_newaK hC.1 hC.2.1 (atype := .int) (hts _ harr) rfl hdg rfl hn hN (by show N * 4 ≤ _; omega) (by have := hR.2.2.1; omega) (by have := hR.2.2.2; omega) rfl fun H1 cA e1 z1 o1 hAr hNm => ?_
  have hcA : G.2.1 0 = cA := Option.some.inj ((hK.2 0 _ rfl).2.symm.trans hNm)
  have hat : va_at G.1 vwCl (jad G ks.length, jent G I L R ks.length (20, N)) H1 := by
    rw [jent_i, ha, h0, hcA]
    exact e1
  refine W.eq (g2 := F0 m (pc + 2) lsA (.ref (jad G ks.length) :: st.map (jcv G))) (by rw [ha]) ?_
  exact k p e Rm s m args below meth c Z H1 locs (cells + 1) (slots + N) lsA hC ⟨hR.1, hR.2.1, by have := hR.2.2.1; omega, by have := hR.2.2.2; omega⟩ (jH_push hC.2.2.2.2.2.1.2.1 hH hlt hat z1 o1) hl hZ
theorem jr_newarr_l {n : Int32} {N k0 : Nat} (harr : Cond.arrayClass .long ∈ jWS) (hn : ¬ n < 0) (hN : n.toNatClampNeg = N) (hb : N ≤ 1000) (hk0 : ks.length = k0) (hlt : k0 < jN) (h0 : L k0 = fun _ => 0) (hdg : decode cc pc = .ok (.newarray .long, 2))
    (k : J G l y cc nL d mc ms (pc + 2) ls (.ref k0 :: st) (ks ++ [(21, N)], I, L, R) Q) : J G l y cc nL d (1 + mc) (N + ms) pc ls (.int n :: st) (ks, I, L, R) Q := by
  subst hk0
  intro p e Rm s m args below meth c Z H locs cells slots lsA hC hR hH hl hZ
  have hts := hC.2.2.2.2.1
  have hK := hC.2.2.2.2.2.1.1
  have hs : H.size = G.2.2.1 + ks.length := hH.1.2.2.1 hlt
  have hn1 : ks.length < 1000 := Nat.lt_trans hlt (by decide)
  have ha : jad G ks.length = H.size := by rw [jad_lt hn1, hs]
  refine va_newaK hC.1 hC.2.1 (atype := .long) (hts _ harr) rfl hdg rfl hn hN (by show N * 8 ≤ _; omega) (by have := hR.2.2.1; omega) (by have := hR.2.2.2; omega) rfl fun H1 cA e1 z1 o1 hAr hNm => ?_
  have hcA : G.2.1 1 = cA := Option.some.inj ((hK.2 1 _ rfl).2.symm.trans hNm)
  have hat : va_at G.1 vwCl (jad G ks.length, jent G I L R ks.length (21, N)) H1 := by
    rw [jent_l, ha, h0, hcA]
    exact e1
  refine W.eq (g2 := F0 m (pc + 2) lsA (.ref (jad G ks.length) :: st.map (jcv G))) (by rw [ha]) ?_
  exact k p e Rm s m args below meth c Z H1 locs (cells + 1) (slots + N) lsA hC ⟨hR.1, hR.2.1, by have := hR.2.2.1; omega, by have := hR.2.2.2; omega⟩ (jH_push hC.2.2.2.2.2.1.2.1 hH hlt hat z1 o1) hl hZ
theorem jr_newarr_z {n : Int32} {N k0 : Nat} (harr : Cond.arrayClass .boolean ∈ jWS) (hn : ¬ n < 0) (hN : n.toNatClampNeg = N) (hb : N ≤ 1000) (hk0 : ks.length = k0) (hlt : k0 < jN) (h0 : I k0 = fun _ => 0) (hdg : decode cc pc = .ok (.newarray .boolean, 2))
    (k : J G l y cc nL d mc ms (pc + 2) ls (.ref k0 :: st) (ks ++ [(24, N)], I, L, R) Q) : J G l y cc nL d (1 + mc) (N + ms) pc ls (.int n :: st) (ks, I, L, R) Q := by
  subst hk0
  intro p e Rm s m args below meth c Z H locs cells slots lsA hC hR hH hl hZ
  have hts := hC.2.2.2.2.1
  have hK := hC.2.2.2.2.2.1.1
  have hs : H.size = G.2.2.1 + ks.length := hH.1.2.2.1 hlt
  have hn1 : ks.length < 1000 := Nat.lt_trans hlt (by decide)
  have ha : jad G ks.length = H.size := by rw [jad_lt hn1, hs]
  refine va_newaK hC.1 hC.2.1 (atype := .boolean) (hts _ harr) rfl hdg rfl hn hN (by show N * 1 ≤ _; omega) (by have := hR.2.2.1; omega) (by have := hR.2.2.2; omega) rfl fun H1 cA e1 z1 o1 hAr hNm => ?_
  have hcA : G.2.1 4 = cA := Option.some.inj ((hK.2 4 _ rfl).2.symm.trans hNm)
  have hat : va_at G.1 vwCl (jad G ks.length, jent G I L R ks.length (24, N)) H1 := by
    rw [jent_z, ha, h0, hcA]
    exact e1
  refine W.eq (g2 := F0 m (pc + 2) lsA (.ref (jad G ks.length) :: st.map (jcv G))) (by rw [ha]) ?_
  exact k p e Rm s m args below meth c Z H1 locs (cells + 1) (slots + N) lsA hC ⟨hR.1, hR.2.1, by have := hR.2.2.1; omega, by have := hR.2.2.2; omega⟩ (jH_push hC.2.2.2.2.2.1.2.1 hH hlt hat z1 o1) hl hZ
/-- Object's constructor -/
theorem jr_objinit {index r : Nat} (hlk : Cond.methodLink y.cls index Lib.objectInit ∈ jWS) (hin : Cond.instanceMethod Lib.objectInit ∈ jWS) (hcd : Cond.code Lib.objectInit ⟨#[0xb1]⟩ 1 none ∈ jWS) (hroom : (st.map fun v => v.category).sum ≤ 8) (hdg : decode cc pc = .ok (.invokespecial index, 3))
    (k : J G l y cc nL (d + 1) mc ms (pc + 3) ls st (ks, I, L, R) Q) : J G l y cc nL (d + 1) mc ms pc ls (.ref r :: st) (ks, I, L, R) Q := by
  intro p e Rm s m args below meth c Z H locs cells slots lsA hC hR hH hl hZ
  have hts := hC.2.2.2.2.1
  have hlo := hR.2.1
  have hfr := hR.1
  refine W.objInit hC.1 hC.2.1 hC.2.2.2.1 (hts _ hlk) (hts _ hin) (hts _ hcd) rfl (by rw [hC.2.2.1]; exact hl.1) (a := jad G r) (rest := st.map (jcv G)) rfl hdg (by omega) ?_ (k p e Rm s m args below meth c Z H locs cells slots lsA hC hR hH hl hZ)
  show 2 * 0 + ((List.map (jcv G) st).map fun v => v.category).sum + 12 ≤ Rm.locals
  rw [jcat]
  omega
/-- a final reference field, set in its constructor -/
theorem jr_putr {index ci N f r q : Nat} {ft : FieldType} (hF : jF y.cls index ci N f 2 ft true) (hown : y.name = "<init>") (hdecl : (vwCl[ci]?).map (fun z => z.1) = some y.cls) (hk : ks[r]? = some (ci, N)) (hn : ∀ a, narrow ft (.ref a) = .ref a) (hfit : ∀ a, fits ft (.ref a) = true) (hdg : decode cc pc = .ok (.putfield index, 3))
    (k : J G l y cc nL d mc ms (pc + 3) ls st (ks, I, L, u2R R r f (some q)) Q) : J G l y cc nL d mc ms pc ls (.ref q :: .ref r :: st) (ks, I, L, R) Q := by
  obtain ⟨C, T, ty, hc, hf, h20, htc, hft, hlk, hfin, hT⟩ := hF
  intro p e Rm s m args below meth c Z H locs cells slots lsA hC hR hH hl hZ
  have he := jws_get (G := G) (w := (ks, I, L, R)) hk
  rw [jent_obj h20] at he
  obtain ⟨hx, hb, hml, hown2, hts, hE, hnm⟩ := hC
  have hK := hE.1
  have hap := va_apart (own := y.cls) hts hc.2.1 ty hc.2.2.1 hc.2.2.2 hK hc.1
  obtain ⟨r0, h1, cell, q1, q2, q3, q4⟩ := hH.1.1 r _ he
  have hr : r0 = (C, T, N) := Option.some.inj (h1.symm.trans hc.1)
  subst hr
  have hCy : C = y.cls := by rw [hc.1] at hdecl; simpa using hdecl
  obtain ⟨hS, hfc, kC, hkC, hkind⟩ := hK.1 ci _ hc.1
  obtain ⟨cf, kf, fi, fd, hi, hsl⟩ := hS f hf
  have hlay := hts _ (hc.2.1 _ (u_in_lay hf))
  unfold u_lay at hlay
  rw [if_pos hfin] at hlay
  have hst := (u_facts hfc hkC (u_lays hts hc.2.1 hf) hi).1
  have hcf : m.cls = cf := by
    obtain ⟨_, _, c', _, _, _, -, -, hf', -, -, -, hown3, -⟩ := Cond.laysFinal_spec hlay
    have e1 : c' = cf := by have := hi.symm.trans hf'; simp at this; exact this.1.symm
    rw [hT, hCy] at hown3
    rw [← e1]; exact Option.some.inj (hown2.symm.trans hown3)
  have h6 := u_fits hfc hkC hkind (Or.inr hlay) hi (hc.2.2.1 f hf) (v := .ref (jad G q)) (by rw [hft]; exact hn _) (by rw [hft]; exact hfit _)
  refine W.putFinK hx hb hown2 (hts _ hlk) hi hst hcf (hnm hown) (by rw [q2]; exact h6) q1 q3 (by rw [hsl]; exact k2_hasslot (q4 f hf)) rfl rfl hdg fun H' e1 e2 e3 => ?_
  rw [hsl] at e1 ⊢
  have hv : jsv G I L (u2R R r f (some q)) r ci f = .ref (jad G q) := by simp [jsv, htc, u2R_self, va_up, va_rf]
  have ho : ∀ i, i ≠ f → jsv G I L (u2R R r f (some q)) r ci i = jsv G I L R r ci i := fun i hi => by simp [jsv, u2R_self, va_up, hi]
  refine k p e Rm s m args below meth c Z H' _ cells slots lsA ⟨hx, hb, hml, hown2, hts, hE, hnm⟩ hR (jH_put (w' := (ks, I, L, u2R R r f (some q))) (e' := .inr (ci, (List.range N).map (jsv G I L (u2R R r f (some q)) r ci))) hH hk ?_ rfl ?_ e2 e3) hl hZ
  · rw [← jent_obj h20]
    exact jws_set hk (fun _ _ => rfl) (fun _ _ => rfl) u2R_ne
  · refine ⟨_, hc.1, ?_⟩
    rw [← jsv_set (I := I) (L := L) (R := R) hv ho]
    exact t_OB.to (V := updV (vp_V ((List.range N).map (jsv G I L R r ci))) f (.ref (jad G q))) ⟨_, e1, q2, q3, t_set q4 hap hf _⟩ (fun j _ => vp_updV_set (by simpa using hf) _ j)
/-- a constructor called -/
def jIm (own : String) (index : Nat) (y2 : MethodName) (cc2 : ByteArray) (nL2 : Nat) (n : Nat) : Prop :=
  Cond.methodLink own index y2 ∈ jWS ∧ Cond.instanceMethod y2 ∈ jWS ∧ Cond.initialized y2.cls ∈ jWS ∧ Cond.code y2 cc2 nL2 none ∈ jWS ∧ (y2.cls ≠ "java/lang/invoke/MethodHandle" ∧ y2.cls ≠ "java/lang/invoke/VarHandle") ∧ (parseMethodDescriptor y2.desc).map (fun d => d.parameters.length) = some n ∧ nL2 ≤ 20 ∧ y2.name = "<init>"
theorem jr_callI {index n r mc2 ms2 nL2 : Nat} {y2 : MethodName} {cc2 : ByteArray} {av stk : List Value} {w : jW} (hm : jIm y.cls index y2 cc2 nL2 n) (hst : stk = av.reverse ++ .ref r :: st) (hn : av.length = n) (hroom : (st.map fun v => v.category).sum ≤ 8) (hdg : decode cc pc = .ok (.invokespecial index, 3))
    (h : jCall G l y2 cc2 nL2 none d mc2 ms2 (.ref r :: av) w (fun v w' => J G l y cc nL (d + 1) mc ms (pc + 3) ls (v.toList ++ st) w' Q)) : J G l y cc nL (d + 1) (mc2 + mc) (ms2 + ms) pc ls stk w Q := by
  intro p e Rm s m args below meth c Z H locs cells slots lsA hC hR hH hl hZ
  subst hst
  obtain ⟨w1, w2, w4, w5, w6, w7, w8, w9⟩ := hm
  have hts := hC.2.2.2.2.1
  refine jback (mc2 := mc2) (ms2 := ms2) hC hR hH.2 hl hZ (va_runI (n := n) (b := jad G r) (As := av.map (jcv G)) (Ts := jWS) (bytes := cc2) (maxL := nL2) ⟨hC.1, hC.2.1, hC.2.2.1, hC.2.2.2.1, hts⟩ h ⟨callB_of n hts (jwd_good w5) rfl rfl rfl (hts _ w4) (hts _ w1) ⟨w6.1, w6.2, w7⟩ ⟨hR.1, ?_⟩, w9, hts _ w2⟩
    ⟨jP_blind G _ w, fun U hU hW => ⟨by rfl, jE_at hC.2.2.2.2.2.1 hH.2 hU hW, by rw [hU]; exact hH.1⟩⟩ rfl (by rw [List.length_map]; exact hn) hl.1 ?_ ?_ hdg ⟨?_, ?_⟩)
  · have := hR.2.1
    show 8 + (nL2 + 11) + 40 * d ≤ Rm.locals
    omega
  · show (av.reverse ++ .ref r :: st).map (jcv G) = _
    simp [jcv]
  · show 2 * 0 + _ ≤ 8
    rw [jcat]
    omega
  · have := hR.2.2.1; omega
  · have := hR.2.2.2; omega
end JN

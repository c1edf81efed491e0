/-! soonest: the class -/
abbrev zU : Type := Bool × (Nat → Int) × Int
def zWL (F : Option lF) (p : Nat → Nat → Int) (st : Nat → Int) (way : Nat) : List Nat → zU → zU
  | [], S => S
  | n :: t, S => zWL F p st way t (S.1 && decide (0 ≤ zfw p st way n S.2.1 S.2.2), zwc F p st way n S.2)
theorem zWL_append {F : Option lF} {p : Nat → Nat → Int} {st : Nat → Int} {way : Nat} : ∀ (a b : List Nat) (S : zU), zWL F p st way (a ++ b) S = zWL F p st way b (zWL F p st way a S) := by
  intro a
  induction a with
  | nil => intro b S; rfl
  | cons n t ih => intro b S; exact ih b _
def TW (F : Option lF) (p : Nat → Nat → Int) (I : jS) (way : Nat) (pre : List Nat) : zU := zWL F p (p 0) way pre (true, dwk I, (I 25 2).toInt)
def lfS (F : Option lF) (p : Nat → Nat → Int) (I : jS) (way : Nat) (pre : List Nat) (S : zBS) : zBS := if (TW F p I way pre).1 = true ∧ (S.1 < 0 ∨ (TW F p I way pre).2.2 < S.1) then ((TW F p I way pre).2.2, pre) else S
theorem TW_snoc {F : Option lF} {p : Nat → Nat → Int} {I : jS} {way : Nat} {pre : List Nat} {j : Nat} : TW F p I way (pre ++ [j]) = ((TW F p I way pre).1 && decide (0 ≤ zfw p (p 0) way j (TW F p I way pre).2.1 (TW F p I way pre).2.2), zwc F p (p 0) way j (TW F p I way pre).2) := by
  unfold TW
  rw [zWL_append]
  rfl
section SN
variable {G : jG} {l : Launch} {d k : Nat} {F : Option lF} {g : Int} {p : Nat → Nat → Int} {I : jS} {L : jL} {st wk : Nat → Int} {mn : Int} {Q : Int32 → jS → jL → Prop} {Qv : jS → jL → Prop} {K : Int32 → Int32 → jS → jL → Prop}
theorem zWL_ok (hF : Fr G l F g p I) {way : Nat} (hw : way < 3) {B : Int} (hB : 0 ≤ B ∧ B ≤ 100000) : ∀ (ls : List Nat) (i : Nat) (S : zU), i + ls.length ≤ 100 → (∀ n ∈ ls, (n : Int) < g) → ((∀ s, s < 24 → 0 ≤ S.2.1 s ∧ S.2.1 s ≤ 99) ∧ 0 ≤ S.2.2 ∧ S.2.2 ≤ B + 78 * i) → (∀ s, s < 24 → 0 ≤ (zWL F p st way ls S).2.1 s ∧ (zWL F p st way ls S).2.1 s ≤ 99) ∧ 0 ≤ (zWL F p st way ls S).2.2 ∧ (zWL F p st way ls S).2.2 ≤ B + 78 * (i + ls.length : Nat) := by
  intro ls
  induction ls with
  | nil => intro i S _ _ h; exact h
  | cons n t ih =>
    intro i S hi hn h
    rw [List.length_cons] at hi
    have hz := zwc_ok hF (st := st) (S := S.2) hw (hn n (by simp)) ⟨h.1, h.2.1, by omega⟩ (by omega)
    have e : i + (n :: t).length = i + 1 + t.length := by rw [List.length_cons]; omega
    rw [e]
    unfold zWL
    exact ih (i + 1) _ (by omega) (fun q hq => hn q (by simp [hq])) ⟨hz.1, by simp only; omega, by simp only; omega⟩
theorem TW_ok (hF : Fr G l F g p I) (hz : zok (dwk I) (I 25 2).toInt) (hmn : (I 25 2).toInt ≤ 100000) {way gn : Nat} (hgn : g = gn) (hw : way < 3) {pre : List Nat} (hl : pre.length ≤ gn) (hp : ∀ n ∈ pre, n < gn) : zok (TW F p I way pre).2.1 (TW F p I way pre).2.2 ∧ (TW F p I way pre).2.2 ≤ 101000 := by
  have hg := hF.1
  have := zWL_ok (st := p 0) hF hw (B := (I 25 2).toInt) ⟨hz.2.1, hmn⟩ pre 0 (true, dwk I, (I 25 2).toInt) (by omega) (fun n hn => by have := hp n hn; omega) ⟨hz.1, hz.2.1, by simp⟩
  unfold TW
  exact ⟨⟨this.1, this.2.1, by omega⟩, by omega⟩
theorem lfS_prune (hF : Fr G l F g p I) (hz : zok (dwk I) (I 25 2).toInt) (hmn : (I 25 2).toInt ≤ 100000) {way gn m : Nat} (hgn : g = gn) (hw : way < 3) {skip : List Nat → Nat → Bool} {pre : List Nat} {S : zBS} (hl : pre.length + m = gn) (hp : ∀ n ∈ pre, n < gn) (h : (TW F p I way pre).1 = false ∨ (0 ≤ S.1 ∧ S.1 ≤ (TW F p I way pre).2.2)) : rf (lfS F p I way) skip gn m pre S = S := by
  refine rf_same (fun m pre S => pre.length + m = gn ∧ (∀ n ∈ pre, n < gn) ∧ ((TW F p I way pre).1 = false ∨ (0 ≤ S.1 ∧ S.1 ≤ (TW F p I way pre).2.2))) (fun pre S h => ?_) (fun m pre S j hj h => ?_) m pre S ⟨hl, hp, h⟩
  · unfold lfS
    rw [if_neg (fun q => by
      rcases h.2.2 with z | z
      · rw [z] at q; exact absurd q.1 (by decide)
      · omega)]
  · obtain ⟨h1, h2, h3⟩ := h
    refine ⟨by rw [List.length_append]; simp; omega, fun n hn => ?_, ?_⟩
    · rcases List.mem_append.mp hn with z | z
      · exact h2 n z
      · have := List.mem_singleton.mp z; omega
    · rw [TW_snoc]
      simp only
      rcases h3 with z | z
      · rw [z]; exact Or.inl rfl
      · have ho := TW_ok hF hz hmn hgn hw (by omega) h2
        have := zwc_ok hF (st := p 0) (S := (TW F p I way pre).2) hw (n := j) (by omega) ho.1 (by omega)
        exact Or.inr ⟨z.1, by omega⟩
/-- what the class's search has found -/
def KS (gn : Nat) (J : jS) (S : zBS) : Prop := (J 37 6).toInt = (if S.1 < 0 then 1000000000 else S.1) ∧ (0 ≤ S.1 → ∀ i, i < gn → (J 50 i).toInt = S.2.getD i 0)
theorem KS.cg {gn : Nat} {J J' : jS} {S : zBS} (h : KS gn J S) (h1 : J' 37 = J 37) (h2 : J' 50 = J 50) : KS gn J' S := by
  unfold KS
  rw [h1, h2]
  exact h
theorem tX8_tryWaiting {x1 : Int32} {way gn : Nat} (hF : Fr G l F g p I) (hz : zok (dwk I) (I 25 2).toInt) (hmn : (I 25 2).toInt ≤ 100000) (hgn : g = gn) (hx : x1.toInt = way) (hw : way < 3) : ∀ (m : Nat) (pre : List Nat) (S : zBS) (J : jS) (x2 x3 : Int32) (Qv : jS → jL → Prop), pre.length + m = gn → (∀ n ∈ pre, n < gn) → ag scC [] I J → (TW F p I way pre).1 = true → Ic 38 J (p 0) (TW F p I way pre).2.1 (TW F p I way pre).2.2 → x2.toInt = pre.length → btN x3 (fun j => j ∈ pre) → (∀ i, i < pre.length → (J 49 i).toInt = pre.getD i 0) → KS gn J S →
    (∀ J', ag scC [] I J' → (∀ s, s < 24 → (J' 39 s).toInt = p 0 s) → (∀ t, t < pre.length → J' (42 + t) = J (42 + t)) → (∀ i, i < pre.length → J' 49 i = J 49 i) → KS gn J' (rf (lfS F p I way) skM gn m pre S) → Qv J' L) → cV G l mX8_tryWaiting (d + m + 7) [.ref 37, .int x1, .int x2, .int x3] J L Qv := by
  have hg := hF.1
  have i38 : isIce 38 := by unfold isIce; decide
  intro m
  induction m with
  | zero =>
    intro pre S J x2 x3 Qv hlen hpre ha hfl hJ h2 h3 h49 hK hQ
    have hFJ := hF.ag ha rfl
    have e11 : (J 1 1).toInt = gn := by rw [hFJ.2.1, hgn]
    have hT := TW_ok hF hz hmn hgn hw (pre := pre) (by omega) hpre
    refine wX8_tryWaiting_ok (Q := fun v I' L' => v = none ∧ Qv I' L') ?_
    unfold wX8_tryWaiting
    refine ife (fun q => ?_) (fun q => ⟨rfl, ?_⟩)
    · rw [zlt, hJ.2.2, hK.1] at q
      have q2 : S.1 < 0 ∨ (TW F p I way pre).2.2 < S.1 := by
        by_cases z : S.1 < 0
        · exact Or.inl z
        · rw [if_neg z] at q; exact Or.inr q
      rw [if_pos (by rw [zle, e11, h2]; omega)]
      unfold wX8_tryWaiting_32
      refine tX8_keepAs ⟨rfl, hQ _ (agc (agu ha (by decide) (by decide)) (by decide) (by decide)) (fun s hs => ?_) (fun t ht => ?_) (fun i hi => ?_) ?_⟩
      · rw [cpk_ne (by decide), u2n (by decide)]; exact hJ.1 s hs
      · rw [cpk_ne (by omega), u2_ne _ (by omega)]
      · rw [cpk_ne (by decide), u2n (by decide)]
      · unfold rf lfS
        rw [if_pos ⟨hfl, q2⟩]
        refine ⟨?_, fun _ i hi => ?_⟩
        · rw [cpk_ne (by decide), u2e, hJ.2.2]
          simp only
          rw [if_neg (by have := hT.1.2.1; omega)]
        · rw [cpk_eq (by omega), u2n (by decide)]; exact h49 i (by omega)
    · rw [zlt, hJ.2.2, hK.1] at q
      refine hQ J ha hJ.1 (fun _ _ => rfl) (fun _ _ => rfl) ?_
      rw [lfS_prune hF hz hmn hgn hw (by omega) hpre (Or.inr ?_)]
      · exact hK
      · by_cases z : S.1 < 0
        · rw [if_pos z] at q; omega
        · rw [if_neg z] at q; omega
  | succ m ih =>
    intro pre S J x2 x3 Qv hlen hpre ha hfl hJ h2 h3 h49 hK hQ
    have hFJ := hF.ag ha rfl
    have e11 : (J 1 1).toInt = gn := by rw [hFJ.2.1, hgn]
    have hT := TW_ok hF hz hmn hgn hw (pre := pre) (by omega) hpre
    have hsn := fun j => TW_snoc (F := F) (p := p) (I := I) (way := way) (pre := pre) (j := j)
    rw [show d + (m + 1) + 7 = (d + m + 7) + 1 by omega]
    refine wX8_tryWaiting_ok (Q := fun v I' L' => v = none ∧ Qv I' L') ?_
    unfold wX8_tryWaiting
    refine ife (fun q => ?a) (fun q => ⟨rfl, ?b⟩)
    case b =>
      rw [zlt, hJ.2.2, hK.1] at q
      refine hQ J ha hJ.1 (fun _ _ => rfl) (fun _ _ => rfl) ?_
      rw [lfS_prune hF hz hmn hgn hw (by omega) hpre (Or.inr ?_)]
      · exact hK
      · by_cases z : S.1 < 0
        · rw [if_pos z] at q; omega
        · rw [if_neg z] at q; omega
    rw [if_neg (by rw [zle, e11, h2]; omega), if_pos (by rw [zlt, zl_7, h2]; omega)]
    have hlt : pre.length < 7 := by omega
    refine tX8_save h2 hlt ?_
    have hn2 : x2.toNatClampNeg = pre.length := by rw [znat]; omega
    have hin2 : vp_in x2 7 := by rw [zin]; omega
    generalize hRd : rf (lfS F p I way) skM gn (m + 1) pre S = R at hQ
    unfold rf at hRd
    have loop : ∀ (q j : Nat) (N : jS) (S' : zBS), j + q = gn → ag scC [] I N → Ic 38 N (p 0) (TW F p I way pre).2.1 (TW F p I way pre).2.2 → (∀ s, s < 24 → (N (42 + pre.length) s).toInt = (TW F p I way pre).2.1 s) → (∀ t, t < pre.length → N (42 + t) = J (42 + t)) → (∀ i, i < pre.length → N 49 i = J 49 i) → KS gn N S' → rlo (fun j S => if skM pre j = true then S else rf (lfS F p I way) skM gn m (pre ++ [j]) S) q j S' = R → wX8_tryWaiting_61 G l (d + m + 7) (fun v I' L' => v = none ∧ Qv I' L') (q + 1) x1 x2 x3 (J 38 2) (Int32.ofNat j) N L := by
      intro q
      induction q with
      | zero =>
        intro j N S' hj haN hN hsv h42 hN49 hKN hr
        have hFN := hF.ag haN rfl
        have hr' : S' = R := hr
        subst hr'
        unfold wX8_tryWaiting_61
        rw [if_pos (by rw [zle, hFN.2.1, zo (by omega)]; omega)]
        exact ⟨rfl, hQ N haN hN.1 h42 hN49 hKN⟩
      | succ q ihq =>
        intro j N S' hj haN hN hsv h42 hN49 hKN hr
        have hFN := hF.ag haN rfl
        have hb := zwt_b (p := p) (st := p 0) (way := way) (n := j) (wk := (TW F p I way pre).2.1) (mn := (TW F p I way pre).2.2)
        unfold rlo at hr
        unfold wX8_tryWaiting_61
        rw [if_neg (by rw [zle, hFN.2.1, zo (by omega)]; omega)]
        have hbit : ((x3 >>> (Int32.ofNat j &&& 31)) &&& 1 = 1) ↔ j ∈ pre := (bitP_bt (x := x3) (k := j) (by omega)).trans (h3 j (by omega))
        have hl1 : (pre ++ [j]).length = pre.length + 1 := by simp
        have hpre' : ∀ n ∈ pre ++ [j], n < gn := fun n hn => by
          rcases List.mem_append.mp hn with z | z
          · exact hpre n z
          · have := List.mem_singleton.mp z; omega
        refine ife (fun c => ?_) (fun c => ?_)
        · rw [hbit] at c
          rw [if_pos (show skM pre j = true by unfold skM; exact decide_eq_true c)] at hr
          rw [zsucc]
          exact ihq (j + 1) N S' (by omega) haN hN hsv h42 hN49 hKN hr
        · rw [hbit] at c
          rw [if_neg (show ¬ skM pre j = true by unfold skM; rw [decide_eq_true_iff]; exact c)] at hr
          refine tX3_firstWait i38 hFN hN hT.1 (zst0 hF) hx hw (zo (k := j) (by omega)) (by omega) (fun r1 N1 hr1 ha1 => ?_)
          have hb1 : ag scC [] I N1 := haN.cl ha1
          have hN1 := hN.ag i38 ha1 (by decide) (by decide) (by decide)
          refine ife (fun z => ?_) (fun z => ?_)
          · rw [zeq, hr1, zl_m1] at z
            rw [lfS_prune hF hz hmn hgn hw (by omega) hpre' (Or.inl (by rw [hsn j]; simp only; rw [decide_eq_false (by omega), Bool.and_false]))] at hr
            rw [zsucc]
            refine ihq (j + 1) N1 S' (by omega) hb1 hN1 (fun s hs => ?_) (fun t ht => ?_) (fun i hi => ?_) (hKN.cg (ha1.c 37) (ha1.c 50)) hr
            · rw [ha1.1 (42 + pre.length) (by omega) (by simp; omega)]; exact hsv s hs
            · rw [ha1.1 (42 + t) (by omega) (by simp; omega)]; exact h42 t ht
            · rw [ha1.c 49]; exact hN49 i hi
          · rw [zeq, hr1, zl_m1] at z
            have hwt : zwt p (p 0) way j (TW F p I way pre).2.1 (TW F p I way pre).2.2 = r1.toInt := by rw [hr1]; unfold zwt; omega
            refine ⟨hin2, ?_⟩
            rw [hn2]
            have hau : ag [49] [] N1 (u2 N1 49 pre.length (Int32.ofNat j)) := agu ag.rf (by simp) (by decide)
            have hb2 : ag scC [] I (u2 N1 49 pre.length (Int32.ofNat j)) := hb1.cl hau
            refine tX3_pass i38 (hF.ag hb2 rfl) (hN1.ag i38 hau (by decide) (by decide) (by decide)) hT.1 hwt.symm (by omega) (fun N3 ha3 hN3 => ?_)
            have hb3 : ag scC [] I N3 := hb2.cl ha3
            refine tX3_cross (back := false) i38 (hF.ag hb3 rfl) hN3 (zpassF hF ⟨hb.1, hb.2.1⟩ hT.1 (by omega)) (zst0 hF) hx hw (zo (k := j) (by omega)) (by omega) (more := 0) (by decide) (by decide) rfl (fun r4 N4 hr4 ha4 hN4 => ?_)
            have hb4 : ag scC [] I N4 := hb3.cl ha4
            have e37 : N4 37 = N 37 := by rw [ha4.c 37, ha3.c 37, hau.c 37, ha1.c 37]
            have e50 : N4 50 = N 50 := by rw [ha4.c 50, ha3.c 50, hau.c 50, ha1.c 50]
            have e42 : ∀ t, t < 7 → N4 (42 + t) = N (42 + t) := fun t ht => by
              rw [ha4.1 (42 + t) (by omega) (by simp; omega), ha3.1 (42 + t) (by omega) (by simp; omega), hau.1 (42 + t) (by omega) (by simp; omega), ha1.1 (42 + t) (by omega) (by simp; omega)]
            have e49 : ∀ i, N4 49 i = if i = pre.length then Int32.ofNat j else N 49 i := fun i => by
              rw [ha4.c 49, ha3.c 49, u2_ap]
              by_cases e : i = pre.length
              · rw [if_pos ⟨rfl, e⟩, if_pos e]
              · rw [if_neg (fun z => e z.2), if_neg e, ha1.c 49]
            refine ih (pre ++ [j]) S' N4 _ _ _ (by omega) hpre' hb4 (by rw [hsn j]; simp only; rw [hfl, decide_eq_true (by omega)]; rfl) (by rw [hsn j]; exact hN4) ?_ (btN_or h3 (by omega)) (fun i hi => ?_) (hKN.cg e37 e50) (fun N5 ha5 h39 h42' h49' hK5 => ?_)
            · rw [zadd (by rw [h2, z1]; omega) (by rw [h2, z1]; omega), h2, z1, hl1]; simp
            · rw [hl1] at hi
              rw [e49 i, getD_snoc' (by omega)]
              by_cases e : i = pre.length
              · rw [if_pos e, if_neg (by omega), zo (by omega)]
              · rw [if_neg e, if_pos (by omega), hN49 i (by omega)]; exact h49 i (by omega)
            · rw [hl1] at h42' h49'
              refine tX8_restore h2 hlt ?_
              rw [zsucc]
              refine ihq (j + 1) _ _ (by omega) (agu (agc ha5 (by decide) (by decide)) (by decide) (by decide)) ⟨fun s hs => ?_, fun s hs => ?_, ?_⟩ (fun s hs => ?_) (fun t ht => ?_) (fun i hi => ?_) (hK5.cg ?_ ?_) hr
              · rw [u2n (by decide), cpk_ne (by decide)]; exact h39 s hs
              · rw [u2n (by decide), cpk_eq hs, h42' pre.length (by omega), e42 pre.length hlt]; exact hsv s hs
              · rw [u2e]; exact hJ.2.2
              · rw [u2n (by omega), cpk_ne (by omega), h42' pre.length (by omega), e42 pre.length hlt]; exact hsv s hs
              · rw [u2_ne _ (by omega), cpk_ne (by omega), h42' t (by omega), e42 t (by omega)]; exact h42 t ht
              · rw [u2n (by decide), cpk_ne (by decide), h49' i (by omega), e49 i, if_neg (by omega)]; exact hN49 i hi
              · rw [u2_ne _ (by decide), cpk_ne (by decide)]
              · rw [u2_ne _ (by decide), cpk_ne (by decide)]
    have m42 := mem42 hlt
    refine ⟨_, loop gn 0 _ S (by omega) (agc ha m42 (by omega)) ⟨fun s hs => ?_, fun s hs => ?_, ?_⟩ (fun s hs => ?_) (fun t ht => ?_) (fun i hi => ?_) (hK.cg ?_ ?_) hRd⟩
    · rw [cpk_ne (by omega)]; exact hJ.1 s hs
    · rw [cpk_ne (by omega)]; exact hJ.2.1 s hs
    · rw [cpk_ne (by omega)]; exact hJ.2.2
    · rw [cpk_eq hs]; exact hJ.2.1 s hs
    · rw [cpk_ne (by omega)]
    · rw [cpk_ne (by omega)]
    · rw [cpk_ne (by omega)]
    · rw [cpk_ne (by omega)]
end SN

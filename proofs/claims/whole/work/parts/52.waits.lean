/-! waits -/
/-- a crossing goes over just where each of its squares bears who steps -/
theorem zgo_over {F : Option lF} {c : zC} {st : Nat → Int} {mn sun : Int} {sq : Nat → Nat} (hinj : ∀ i j, i < 8 → j < 8 → sq i = sq j → i = j) : ∀ m k wk, k + m ≤ 8 → ((zgo F c st mn sun sq m k wk).1 = -1 ↔ ∀ j, k ≤ j → j < k + m → c.2.1 ≤ zB st wk mn sun (sq j)) := by
  intro m
  induction m with
  | zero => intro k wk _; exact ⟨fun _ j h1 h2 => by omega, fun _ => rfl⟩
  | succ m ih =>
    intro k wk hk
    unfold zgo
    by_cases hc : c.2.1 ≤ zB st wk mn sun (sq k)
    · rw [if_pos hc, ih (k + 1) _ (by omega)]
      have e : ∀ j, k + 1 ≤ j → j < k + 1 + m → zB st (zS F c st mn sun (sq k) wk) mn sun (sq j) = zB st wk mn sun (sq j) := fun j h1 h2 => by
        have hne : sq j ≠ sq k := fun q => by have := hinj j k (by omega) (by omega) q; omega
        have e1 : zS F c st mn sun (sq k) wk (sq j) = wk (sq j) := by
          unfold zS zup
          rw [if_neg hne]
        unfold zB
        rw [e1]
      constructor
      · intro h j h1 h2
        by_cases q : j = k
        · rw [q]; exact hc
        · have := h j (by omega) (by omega)
          rw [e j (by omega) (by omega)] at this
          exact this
      · intro h j h1 h2
        rw [e j h1 h2]
        exact h j (by omega) (by omega)
    · rw [if_neg hc]
      constructor
      · intro h
        simp only at h
        omega
      · intro h
        exact absurd (h k (by omega) (by omega)) hc
theorem zsq_f {way k : Nat} : zsq way false k = 8 * way + k := by
  unfold zsq
  simp
theorem zcross_over {F : Option lF} {p : Nat → Nat → Int} {st : Nat → Int} {way n : Nat} {wk : Nat → Int} {mn : Int} : (zcross F p st way n 0 false wk mn).1 = -1 ↔ ∀ j, j < 8 → (zready p n 0).2.1 ≤ zB st wk mn (p 8 0) (8 * way + j) := by
  have h := zgo_over (F := F) (c := zready p n 0) (st := st) (mn := mn) (sun := p 8 0) (sq := zsq way false) (fun i j hi hj q => by rw [zsq_f, zsq_f] at q; omega) 8 0 wk (by omega)
  have e : (zcross F p st way n 0 false wk mn).1 = (zgo F (zready p n 0) st mn (p 8 0) (zsq way false) 8 0 wk).1 := rfl
  rw [e, h]
  constructor
  · intro h j hj
    have := h j (by omega) (by omega)
    rw [zsq_f] at this
    exact this
  · intro h j _ hj
    rw [zsq_f]
    exact h j (by omega)
def fwN (B : Nat → Bool) : Nat → Nat → Int
  | 0, _ => -1
  | m + 1, i => if B i = true then (i : Int) else fwN B m (i + 1)
theorem fwN_b {B : Nat → Bool} : ∀ m i, (fwN B m i = -1 ∧ ∀ j, i ≤ j → j < i + m → B j = false) ∨ (∃ w : Nat, fwN B m i = w ∧ i ≤ w ∧ w < i + m ∧ B w = true) := by
  intro m
  induction m with
  | zero => intro i; exact Or.inl ⟨rfl, fun j h1 h2 => by omega⟩
  | succ m ih =>
    intro i
    unfold fwN
    by_cases hb : B i = true
    · rw [if_pos hb]
      exact Or.inr ⟨i, rfl, by omega, by omega, hb⟩
    · rw [if_neg hb]
      rcases ih (i + 1) with ⟨h1, h2⟩ | ⟨w, h1, h2, h3, h4⟩
      · refine Or.inl ⟨h1, fun j q1 q2 => ?_⟩
        by_cases e : j = i
        · rw [e]; simpa using hb
        · exact h2 j (by omega) (by omega)
      · exact Or.inr ⟨w, h1, by omega, by omega, h4⟩
def all8 (B : Nat → Bool) : Bool := (List.range 8).all B
theorem all8_t {B : Nat → Bool} : all8 B = true ↔ ∀ j, j < 8 → B j = true := by
  unfold all8
  rw [List.all_eq_true]
  constructor
  · intro h j hj; exact h j (List.mem_range.mpr hj)
  · intro h j hj; exact h j (List.mem_range.mp hj)
/-- behind so many minutes the way holds who steps -/
def hldW (p : Nat → Nat → Int) (st : Nat → Int) (way : Nat) (wk : Nat → Int) (mn v : Int) (w : Nat) : Bool := all8 (fun j => decide (v ≤ zB st (zpass p w wk) (mn + w) (p 8 0) (8 * way + j)))
theorem hldW_t {p : Nat → Nat → Int} {st : Nat → Int} {way : Nat} {wk : Nat → Int} {mn v : Int} {w : Nat} : hldW p st way wk mn v w = true ↔ ∀ j, j < 8 → v ≤ zB st (zpass p w wk) (mn + w) (p 8 0) (8 * way + j) := by
  unfold hldW
  rw [all8_t]
  constructor
  · intro h j hj; exact decide_eq_true_iff.mp (h j hj)
  · intro h j hj; exact decide_eq_true_iff.mpr (h j hj)
def hldB (p : Nat → Nat → Int) (st : Nat → Int) (way n : Nat) (wk : Nat → Int) (mn : Int) (w : Nat) : Bool := hldW p st way wk mn (zready p n 0).2.1 w
def zfw (p : Nat → Nat → Int) (st : Nat → Int) (way n : Nat) (wk : Nat → Int) (mn : Int) : Int := fwN (hldB p st way n wk mn) 61 0
def zwt (p : Nat → Nat → Int) (st : Nat → Int) (way n : Nat) (wk : Nat → Int) (mn : Int) : Int := max 0 (zfw p st way n wk mn)
theorem zwt_b {p : Nat → Nat → Int} {st : Nat → Int} {way n : Nat} {wk : Nat → Int} {mn : Int} : 0 ≤ zwt p st way n wk mn ∧ zwt p st way n wk mn ≤ 60 ∧ (-1 ≤ zfw p st way n wk mn ∧ zfw p st way n wk mn ≤ 60) := by
  unfold zwt zfw
  rcases fwN_b (B := hldB p st way n wk mn) 61 0 with ⟨h1, h2⟩ | ⟨w, h1, h2, h3, h4⟩
  · rw [h1]; omega
  · rw [h1]; omega
/-- one who waits and goes: weakness and minute behind -/
def zwc (F : Option lF) (p : Nat → Nat → Int) (st : Nat → Int) (way n : Nat) (S : (Nat → Int) × Int) : (Nat → Int) × Int := (zcross F p st way n 0 false (zpass p (zwt p st way n S.1 S.2) S.1) (S.2 + zwt p st way n S.1 S.2)).2
def zws (F : Option lF) (p : Nat → Nat → Int) (st : Nat → Int) (way : Nat) (o : Nat → Nat) (S : (Nat → Int) × Int) : Nat → (Nat → Int) × Int
  | 0 => S
  | i + 1 => zwc F p st way (o i) (zws F p st way o S i)
def zwi (F : Option lF) (p : Nat → Nat → Int) (st : Nat → Int) (way : Nat) (o : Nat → Nat) (S : (Nat → Int) × Int) (i : Nat) : Int := zwt p st way (o i) (zws F p st way o S i).1 (zws F p st way o S i).2
def zwm (F : Option lF) (p : Nat → Nat → Int) (st : Nat → Int) (way : Nat) (o : Nat → Nat) (S : (Nat → Int) × Int) : Nat → Int
  | 0 => 0
  | i + 1 => zwm F p st way o S i + zwi F p st way o S i
section WT
variable {G : jG} {l : Launch} {d k : Nat} {F : Option lF} {g : Int} {p : Nat → Nat → Int} {I : jS} {L : jL} {ic : Nat} {c : zC} {st wk : Nat → Int} {mn : Int} {Q : Int32 → jS → jL → Prop} {Qv : jS → jL → Prop} {K : Int32 → Int32 → jS → jL → Prop}
theorem zpassF (hF : Fr G l F g p I) {w : Int} (hw : 0 ≤ w ∧ w ≤ 60) (ho : zok wk mn) (hm : mn ≤ 800000) : zok (zpass p w wk) (mn + w) :=
  ⟨zpass_ok hw.1 (fun s hs => (pok_1 (hF.sq hs (w := 1) (by decide)).2.2).1) ho.1, by have := ho.2; omega⟩
theorem zwc_ok (hF : Fr G l F g p I) {way n : Nat} {S : (Nat → Int) × Int} (hw : way < 3) (hn : (n : Int) < g) (ho : zok S.1 S.2) (hm : S.2 ≤ 800000) : (∀ s, s < 24 → 0 ≤ (zwc F p st way n S).1 s ∧ (zwc F p st way n S).1 s ≤ 99) ∧ S.2 < (zwc F p st way n S).2 ∧ (zwc F p st way n S).2 ≤ S.2 + 78 := by
  have hb := zwt_b (p := p) (st := st) (way := way) (n := n) (wk := S.1) (mn := S.2)
  have := zcross_ok hF (st := st) (more := 0) (back := false) hw hn (by decide) (zpassF hF (w := zwt p st way n S.1 S.2) ⟨hb.1, hb.2.1⟩ ho hm)
  unfold zwc
  exact ⟨this.1, by omega, by omega⟩
theorem zws_ok (hF : Fr G l F g p I) {way : Nat} {o : Nat → Nat} {S : (Nat → Int) × Int} (hw : way < 3) (ho : zok S.1 S.2) (hm : S.2 ≤ 100000) : ∀ i, i ≤ 100 → (∀ j, j < i → (o j : Int) < g) → (∀ s, s < 24 → 0 ≤ (zws F p st way o S i).1 s ∧ (zws F p st way o S i).1 s ≤ 99) ∧ 0 ≤ (zws F p st way o S i).2 ∧ (zws F p st way o S i).2 ≤ S.2 + 78 * i := by
  intro i
  induction i with
  | zero => intro _ _; exact ⟨ho.1, ho.2.1, by unfold zws; omega⟩
  | succ i ih =>
    intro hi hg
    obtain ⟨h1, h2, h3⟩ := ih (by omega) (fun j hj => hg j (by omega))
    have := zwc_ok hF (st := st) (S := zws F p st way o S i) hw (hg i (by omega)) ⟨h1, h2, by omega⟩ (by omega)
    unfold zws
    exact ⟨this.1, by omega, by omega⟩
theorem zwm_b {way : Nat} {o : Nat → Nat} {S : (Nat → Int) × Int} : ∀ i, 0 ≤ zwm F p st way o S i ∧ zwm F p st way o S i ≤ 60 * i := by
  intro i
  induction i with
  | zero => unfold zwm; omega
  | succ i ih =>
    have hb := zwt_b (p := p) (st := st) (way := way) (n := o i) (wk := (zws F p st way o S i).1) (mn := (zws F p st way o S i).2)
    unfold zwm zwi
    omega
theorem tX3_holdsBehind {x y : Int32} {way w : Nat} (hic : isIce ic) (hF : Fr G l F g p I) (hc : Cr I c) (hI : Ic ic I st wk mn) (ho : zok wk mn) (hst : zstok st) (hx : x.toInt = way) (hw : way < 3) (hy : y.toInt = w) (hw6 : w ≤ 60)
    (h : Q (b01 (hldW p st way wk mn c.2.1 w = true)) I L) : cI G l mX3_holdsBehind (d + 3) [.ref 23, .ref ic, .int x, .int y] I L Q := by
  refine wX3_holdsBehind_ok hic ?_
  unfold wX3_holdsBehind
  have key : ∀ m k, k + m = 8 → (∀ j, j < k → c.2.1 ≤ zB st (zpass p w wk) (mn + w) (p 8 0) (8 * way + j)) → wX3_holdsBehind_3 G l (d + 2) ic (fun v I' L' => ∃ r, v = some (.int r) ∧ Q r I' L') (m + 1) x y (Int32.ofNat k) I L := by
    intro m
    induction m with
    | zero =>
      intro k hk hall
      have : k = 8 := by omega
      subst this
      unfold wX3_holdsBehind_3
      rw [if_pos (by decide)]
      rw [b01_pos (hldW_t.mpr hall)] at h
      exact ri h
    | succ m ih =>
      intro k hk hall
      unfold wX3_holdsBehind_3
      rw [if_neg (by rw [zle, zo (by omega), zl_8]; omega)]
      have x8 : (x * 8).toInt = way * 8 := by rw [zmul (by rw [hx, zl_8]; omega) (by rw [hx, zl_8]; omega), hx, zl_8]
      have xk : (x * 8 + Int32.ofNat k).toInt = ((8 * way + k : Nat) : Int) := by rw [zadd (by rw [x8, zo (by omega)]; omega) (by rw [x8, zo (by omega)]; omega), x8, zo (by omega)]; omega
      refine tX3_bearing hic hF hI ho hst xk (by omega) hy (by omega) (fun r hr => ?_)
      have e : r.toInt = zB st (zpass p w wk) (mn + w) (p 8 0) (8 * way + k) := by rw [hr]; rfl
      refine ife (fun q => ?_) (fun q => ?_)
      · rw [zle, e, hc.1] at q
        rw [zsucc]
        refine ih (k + 1) (by omega) (fun j hj => ?_)
        by_cases z : j = k
        · rw [z]; exact q
        · exact hall j (by omega)
      · rw [zle, e, hc.1] at q
        rw [b01_neg (fun z => q (hldW_t.mp z k (by omega)))] at h
        exact ri h
  exact ⟨_, key 8 0 (by omega) (fun j hj => by omega)⟩
theorem tX3_firstWait {x y : Int32} {way n : Nat} (hic : isIce ic) (hF : Fr G l F g p I) (hI : Ic ic I st wk mn) (ho : zok wk mn) (hst : zstok st) (hx : x.toInt = way) (hw : way < 3) (hy : y.toInt = n) (hn : (n : Int) < g)
    (h : ∀ (r : Int32) I', r.toInt = zfw p st way n wk mn → ag [23] [] I I' → Q r I' L) : cI G l mX3_firstWait (d + 4) [.ref 23, .ref ic, .int x, .int y] I L Q := by
  have hn71 := ice71 hic
  refine wX3_firstWait_ok hic ?_
  unfold wX3_firstWait
  refine tX3_ready hF hy hn (more := 0) (by decide) (by decide) (fun I1 ha hc => ?_)
  have hF1 := hF.ag ha rfl
  have hI1 := hI.ag hic ha (by simp; omega) (by simp; omega) (by simp; omega)
  unfold zfw at h
  generalize hR : fwN (hldB p st way n wk mn) 61 0 = R at h
  have key : ∀ m i, i + m = 61 → fwN (hldB p st way n wk mn) m i = R → wX3_firstWait_9 G l (d + 3) ic (fun v I' L' => ∃ r, v = some (.int r) ∧ Q r I' L') (m + 1) x (Int32.ofNat i) I1 L := by
    intro m
    induction m with
    | zero =>
      intro i hi hr
      unfold wX3_firstWait_9
      rw [if_pos (by rw [zlt, zo (by omega), zl_60]; omega)]
      exact ri (h _ _ (by rw [← hr]; rfl) ha)
    | succ m ih =>
      intro i hi hr
      unfold wX3_firstWait_9
      rw [if_neg (by rw [zlt, zo (by omega), zl_60]; omega)]
      refine tX3_holdsBehind hic hF1 hc hI1 ho hst hx hw (zo (k := i) (by omega)) (by omega) (ifz (fun q => ?_) (fun q => ?_))
      · rw [zsucc]
        refine ih (i + 1) (by omega) ?_
        rw [← hr]
        conv => rhs; unfold fwN
        rw [if_neg (show ¬ hldB p st way n wk mn i = true from q)]
      · refine ri (h _ _ ?_ ha)
        rw [zo (by omega), ← hr]
        unfold fwN
        rw [if_pos (show hldB p st way n wk mn i = true from q)]
  exact ⟨_, key 61 0 (by omega) hR⟩
theorem tX10_walkWaiting {x : Int32} {way n : Nat} {o : Nat → Nat} (hF : Fr G l F g p I) (hO : Od I o n) (ho : ∀ i, i < n → (o i : Int) < g) (hI : Ic 32 I st wk mn) (hz : zok wk mn) (hmn : mn ≤ 100000) (hst : zstok st) (hx : x.toInt = way) (hw : way < 3)
    (h : ∀ I', ag [32, 34, 36, 21, 22, 23] [] I I' → Od I' o n → (∀ i, i < n → (I' 36 i).toInt = zwi F p st way o (wk, mn) i) → Ic 32 I' st (zws F p st way o (wk, mn) n).1 (zws F p st way o (wk, mn) n).2 → Qv I' L) : cV G l mX10_walkWaiting (d + 6) [.ref 31, .int x] I L Qv := by
  have hn := hO.2.1
  have i32 : isIce 32 := by unfold isIce; decide
  refine wX10_walkWaiting_ok (Q := fun v I' L' => v = none ∧ Qv I' L') ?_
  unfold wX10_walkWaiting
  have key : ∀ m i J, i + m = n → ag [32, 34, 36, 21, 22, 23] [] I J → Od J o n → (∀ t, t < i → (J 36 t).toInt = zwi F p st way o (wk, mn) t) → Ic 32 J st (zws F p st way o (wk, mn) i).1 (zws F p st way o (wk, mn) i).2 → wX10_walkWaiting_2 G l (d + 5) (fun v I' L' => v = none ∧ Qv I' L') (m + 1) x (Int32.ofNat i) J L := by
    intro m
    induction m with
    | zero =>
      intro i J hi ha hO' h36 hJ
      have : i = n := by omega
      subst this
      unfold wX10_walkWaiting_2
      rw [if_pos (by rw [zle, hO'.1, zo (by omega)]; omega)]
      exact ⟨rfl, h J ha hO' h36 hJ⟩
    | succ m ih =>
      intro i J hi ha hO' h36 hJ
      have hFJ := hF.ag ha rfl
      obtain ⟨k1, k2, k3⟩ := zws_ok hF (st := st) (o := o) (S := (wk, mn)) hw hz hmn i (by omega) (fun j hj => ho j (by omega))
      have hb := zwt_b (p := p) (st := st) (way := way) (n := o i) (wk := (zws F p st way o (wk, mn) i).1) (mn := (zws F p st way o (wk, mn) i).2)
      have hzi : zwi F p st way o (wk, mn) i = zwt p st way (o i) (zws F p st way o (wk, mn) i).1 (zws F p st way o (wk, mn) i).2 := rfl
      have hzs : zws F p st way o (wk, mn) (i + 1) = zwc F p st way (o i) (zws F p st way o (wk, mn) i) := rfl
      unfold zwc at hzs
      have k3 : (zws F p st way o (wk, mn) i).2 ≤ mn + 78 * i := k3
      unfold wX10_walkWaiting_2
      rw [if_neg (by rw [zle, hO'.1, zo (by omega)]; omega), if_neg (by rw [zle, zl_10, zo (by omega)]; omega)]
      refine tX10_goerAt hO' (zo (by omega)) (by omega) (fun r1 h1 => ?_)
      refine tX3_firstWait i32 hFJ hJ ⟨k1, k2, by omega⟩ hst hx hw h1 (ho i (by omega)) (fun r2 J2 h2 ha2 => ?_)
      have hJ2 := hJ.ag i32 ha2 (by decide) (by decide) (by decide)
      have hO2 := hO'.ag ha2 rfl rfl
      have ha3 : ag [32, 34, 36, 21, 22, 23] [] I J2 := ha.th ha2
      have tail : ∀ t : Int32, t.toInt = zwi F p st way o (wk, mn) i → wX10_walkWaiting_49 G l (d + 5) (fun z0 z1 I L => wX10_walkWaiting_2 G l (d + 5) (fun v I' L' => v = none ∧ Qv I' L') (m + 1) z0 z1 I L) (fun v I' L' => v = none ∧ Qv I' L') x (Int32.ofNat i) (Int32.ofNat i) t J2 L := fun t ht => by
        have hin : vp_in (Int32.ofNat i) 10 := by rw [zin, zo (by omega)]; omega
        have hau : ag [36] [] J2 (u2 J2 36 i t) := agu ag.rf (by simp) (by decide)
        have ha4 : ag [32, 34, 36, 21, 22, 23] [] I (u2 J2 36 i t) := ha3.th hau
        unfold wX10_walkWaiting_49
        refine ⟨hin, hin, ?_⟩
        rw [zon (by omega), u2e]
        refine tX3_pass i32 (hF.ag ha4 rfl) (hJ2.ag i32 hau (by decide) (by decide) (by decide)) ⟨k1, k2, by omega⟩ ht (by rw [hzi]; omega) (fun J5 ha5 hJ5 => ?_)
        have ha6 : ag [32, 34, 36, 21, 22, 23] [] I J5 := ha4.th ha5
        have hO5 := (hO2.ag hau rfl rfl).ag ha5 rfl rfl
        refine tX10_goerAt hO5 (zo (by omega)) (by omega) (fun r6 h6 => ?_)
        rw [hzi] at hJ5
        refine tX3_cross (back := false) i32 (hF.ag ha6 rfl) hJ5 (zpassF hF (by omega) ⟨k1, k2, by omega⟩ (by omega)) hst hx hw h6 (ho i (by omega)) (more := 0) (by decide) (by decide) rfl (fun r7 J7 h7 ha7 hJ7 => ?_)
        rw [zsucc]
        refine ih (i + 1) J7 (by omega) (ha6.th ha7) (hO5.ag ha7 rfl rfl) (fun q hq => ?_) (by rw [hzs]; exact hJ7)
        rw [ha7.c 36, ha5.c 36, u2_ap]
        by_cases e : q = i
        · rw [if_pos ⟨rfl, e⟩, e]; exact ht
        · rw [if_neg (fun z => e z.2), ha2.c 36]; exact h36 q (by omega)
      refine ife (fun q => tail _ ?_) (fun q => tail _ ?_)
      · rw [zeq, h2, zl_m1] at q
        rw [hzi]; unfold zwt; rw [q]; decide
      · rw [zeq, h2, zl_m1] at q
        rw [hzi, h2]; unfold zwt; omega
  exact ⟨_, key n 0 I (by omega) ag.rf hO (fun t ht => by omega) hI⟩
theorem tX10_waitOf {x : Int32} {o : Nat → Nat} {n i : Nat} (h0 : Od I o n) (hx : x.toInt = i) (hi : i < n) (h : Q (I 36 i) I L) : cI G l mX10_waitOf (d + 1) [.ref 31, .int x] I L Q := by
  refine wX10_waitOf_ok ?_
  unfold wX10_waitOf
  have := h0.2.1
  rw [if_neg (by rw [zlt, z0]; omega), if_neg (by rw [zle, h0.1]; omega), if_neg (by rw [zle, zl_10]; omega)]
  refine ⟨by rw [zin]; omega, ri ?_⟩
  have e : x.toNatClampNeg = i := by rw [znat]; omega
  rw [e]
  exact h
theorem tX10_allWaits {way : Nat} {o : Nat → Nat} {n : Nat} {S : (Nat → Int) × Int} (h0 : Od I o n) (h36 : ∀ i, i < n → (I 36 i).toInt = zwi F p st way o S i) (h : ∀ r : Int32, r.toInt = zwm F p st way o S n → Q r I L) : cI G l mX10_allWaits (d + 2) [.ref 31] I L Q := by
  have hn := h0.2.1
  refine wX10_allWaits_ok ?_
  unfold wX10_allWaits
  have key : ∀ (m i : Nat) (x : Int32), i + m = n → x.toInt = zwm F p st way o S i → wX10_allWaits_4 G l (d + 1) (fun v I' L' => ∃ r, v = some (.int r) ∧ Q r I' L') (m + 1) x (Int32.ofNat i) I L := by
    intro m
    induction m with
    | zero =>
      intro i x hi hx
      have : i = n := by omega
      subst this
      unfold wX10_allWaits_4
      rw [if_pos (by rw [zle, h0.1, zo (by omega)]; omega)]
      exact ri (h _ hx)
    | succ m ih =>
      intro i x hi hx
      have hb := zwm_b (F := F) (p := p) (st := st) (way := way) (o := o) (S := S) i
      have hc := zwt_b (p := p) (st := st) (way := way) (n := o i) (wk := (zws F p st way o S i).1) (mn := (zws F p st way o S i).2)
      have hv := h36 i (by omega)
      have hzi : zwi F p st way o S i = zwt p st way (o i) (zws F p st way o S i).1 (zws F p st way o S i).2 := rfl
      unfold wX10_allWaits_4
      rw [if_neg (by rw [zle, h0.1, zo (by omega)]; omega)]
      refine tX10_waitOf h0 (zo (by omega)) (by omega) ?_
      rw [zsucc]
      refine ih (i + 1) _ (by omega) ?_
      rw [zadd (by rw [hx, hv]; omega) (by rw [hx, hv]; omega), hx, hv]
      rfl
  exact ⟨_, key n 0 0 (by omega) rfl⟩
end WT

/-! how likely: the class -/
def hB (F : Option lF) (p : Nat → Nat → Int) (I : jS) (way : Nat) (ls : List Nat) (k : Nat) (b : Bool) : Bool := sq1 F p (8 * way + k) (p 0 (8 * way + k) - (if b = true then p 3 (8 * way + k) else 0)) ls (dwk I (8 * way + k)) (I 25 2).toInt
def aZ (F : Option lF) (p : Nat → Nat → Int) (I : jS) (way : Nat) (ls : List Nat) (k : Nat) : Int := (if hB F p I way ls k false = true then 12 - p 2 (8 * way + k) else 0) + (if hB F p I way ls k true = true then p 2 (8 * way + k) else 0)
def aB (F : Option lF) (p : Nat → Nat → Int) (I : jS) (way : Nat) (ls : List Nat) (k : Nat) : Int := if hB F p I way ls k false = true then 12 else 0
def LK (F : Option lF) (p : Nat → Nat → Int) (I : jS) (way : Nat) (ls : List Nat) (b : Int) : Int := prodP (fun k => if (k : Int) = b then aB F p I way ls k else aZ F p I way ls k) 8
def GZ : Int → Int → Int := fun A c => if c = 0 then ((A.toNat / Nat.gcd A.toNat 429981696 : Nat) : Int) else ((429981696 / Nat.gcd A.toNat 429981696 : Nat) : Int)
/-- the first of the greatest -/
def bst8 (f : Nat → Int) : Nat → Nat → Nat → Nat
  | 0, _, b => b
  | m + 1, r, b => if f b < f r then bst8 f m (r + 1) r else bst8 f m (r + 1) b
theorem bst8_b {f : Nat → Int} : ∀ m r b, b < r → bst8 f m r b < r + m := by
  intro m
  induction m with
  | zero => intro r b h; unfold bst8; omega
  | succ m ih =>
    intro r b h
    unfold bst8
    by_cases q : f b < f r
    · rw [if_pos q]; have := ih (r + 1) r (by omega); omega
    · rw [if_neg q]; have := ih (r + 1) b (by omega); omega
section C5
variable {G : jG} {l : Launch} {d k : Nat} {F : Option lF} {g : Int} {p : Nat → Nat → Int} {I : jS} {L : jL} {st wk : Nat → Int} {mn : Int} {Q : Int32 → jS → jL → Prop} {QJ : Int64 → jS → jL → Prop} {Qv : jS → jL → Prop} {K : Int32 → Int32 → jS → jL → Prop}
theorem aZ_b {ls : List Nat} {way k : Nat} (h : 0 ≤ p 2 (8 * way + k) ∧ p 2 (8 * way + k) ≤ 12) : (0 ≤ aZ F p I way ls k ∧ aZ F p I way ls k ≤ 12) ∧ (0 ≤ aB F p I way ls k ∧ aB F p I way ls k ≤ 12) := by
  unfold aZ aB
  by_cases h1 : hB F p I way ls k false = true
  · rw [if_pos h1, if_pos h1]
    by_cases h2 : hB F p I way ls k true = true
    · rw [if_pos h2]; omega
    · rw [if_neg h2]; omega
  · rw [if_neg h1, if_neg h1]
    by_cases h2 : hB F p I way ls k true = true
    · rw [if_pos h2]; omega
    · rw [if_neg h2]; omega
theorem tX1_holdsAll {x y : Int32} {way k n : Nat} {o : Nat → Nat} {b : Bool} {J : jS} (hF : Fr G l F g p I) (ha : ag scC [] I J) (hO : Od J o n) (ho : ∀ i, i < n → (o i : Int) < g) (hz : zok (dwk I) (I 25 2).toInt) (hmn : (I 25 2).toInt ≤ 100000) (hx : x.toInt = ((8 * way + k : Nat) : Int)) (hk : 8 * way + k < 24) (hy : y = if b = true then 1 else 0)
    (h : ∀ J', ag [52, 53, 54, 21, 22, 23] [] J J' → Q (b01 (hB F p I way ((List.range' 0 n).map o) k b = true)) J' L) : cI G l mX1_holdsAll (d + 7) [.ref 51, .ref 25, .int x, .ref 31, .int y] J L Q := by
  have i25 : isIce 25 := by unfold isIce; decide
  have i52 : isIce 52 := by unfold isIce; decide
  have hn := hO.2.1
  refine wX1_holdsAll_ok i25 ?_
  unfold wX1_holdsAll
  refine tX3_follow i52 i25 (by decide) (hF.ag ha rfl) (Ic_deed.ag i25 ha (by decide) (by decide) (by decide)) (fun J1 ha1 hJ1 => ?_)
  unfold hB at h
  generalize hR : sq1 F p (8 * way + k) (p 0 (8 * way + k) - (if b = true then p 3 (8 * way + k) else 0)) ((List.range' 0 n).map o) (dwk I (8 * way + k)) (I 25 2).toInt = R at h
  have key : ∀ (st : Nat → Int), zstok st → st (8 * way + k) = p 0 (8 * way + k) - (if b = true then p 3 (8 * way + k) else 0) → ∀ (m i : Nat) M (wk : Nat → Int) (mn : Int), i + m = n → ag [52, 53, 54, 21, 22, 23] [] J M → Ic 52 M st wk mn → ((∀ s, s < 24 → 0 ≤ wk s ∧ wk s ≤ 99) ∧ 0 ≤ mn ∧ mn ≤ 100000 + 18 * i) → sq1 F p (8 * way + k) (st (8 * way + k)) ((List.range' i m).map o) (wk (8 * way + k)) mn = R → wX1_holdsAll_32 G l (d + 6) 25 (fun v I' L' => ∃ r, v = some (.int r) ∧ Q r I' L') (m + 1) x (Int32.ofNat i) M L := by
    intro st hst hsv m
    induction m with
    | zero =>
      intro i M wk mn hi haM hM hw hr
      have hOM := hO.ag haM rfl rfl
      unfold wX1_holdsAll_32
      rw [if_pos (by rw [zle, hOM.1, zo (by omega)]; omega)]
      have hr' : true = R := hr
      have := h M haM
      rw [b01_pos hr'.symm] at this
      exact ri this
    | succ m ih =>
      intro i M wk mn hi haM hM hw hr
      have hOM := hO.ag haM rfl rfl
      have hbM : ag scC [] I M := ha.cl haM
      unfold wX1_holdsAll_32
      rw [if_neg (by rw [zle, hOM.1, zo (by omega)]; omega)]
      refine tX10_goerAt hOM (zo (by omega)) (by omega) (fun r1 h1 => ?_)
      refine tX3_ready (hF.ag hbM rfl) h1 (ho i (by omega)) (more := 0) (by decide) (by decide) (fun M2 ha2 hc => ?_)
      have hb2 : ag scC [] I M2 := hbM.cl ha2
      have hck := zready_ok hF (ho i (by omega)) (more := 0) (by decide)
      have hzk : zok wk mn := ⟨hw.1, hw.2.1, by omega⟩
      refine tX3_steps i52 (hF.ag hb2 rfl) hc hck (hM.ag i52 ha2 (by decide) (by decide) (by decide)) hzk hst hx hk (fun M3 ha3 hM3 => ?_)
      have hb3 : ag scC [] I M3 := hb2.cl ha3
      have hJ3 : ag [52, 53, 54, 21, 22, 23] [] J M3 := (ag.th (S := [52, 53, 54, 21, 22, 23]) (T := []) haM ha2).th ha3
      have e : List.range' i (m + 1) = i :: List.range' (i + 1) m := rfl
      rw [e, List.map_cons] at hr
      unfold sq1 at hr
      have hzt : 0 ≤ zt (zready p (o i) 0) ∧ zt (zready p (o i) 0) ≤ 18 := by
        have := hck.2.2
        unfold zt
        by_cases q : (zready p (o i) 0).1 = true
        · rw [if_pos q]; omega
        · rw [if_neg q]; omega
      refine ifz (fun q => ?_) (fun q => ?_)
      · rw [if_neg (show ¬ (zready p (o i) 0).2.1 ≤ max 0 (st (8 * way + k) - wk (8 * way + k) - max 0 (mn - p 8 0)) from q)] at hr
        have := h M3 hJ3
        rw [b01_neg (by rw [← hr]; decide)] at this
        exact ri this
      · have q' : (zready p (o i) 0).2.1 ≤ max 0 (st (8 * way + k) - wk (8 * way + k) - max 0 (mn - p 8 0)) := q
        rw [if_pos q'] at hr
        have hzs := zS_ok (F := F) (c := zready p (o i) 0) (st := st) (mn := mn) (sun := p 8 0) (s := 8 * way + k) hw.1 hk
        refine tX3_passBehind i52 (hF.ag hb3 rfl) (hc.ag ha3 (by decide)) hck hM3 ⟨hzs, hzk.2⟩ (fun M4 ha4 hM4 => ?_)
        rw [zsucc]
        refine ih (i + 1) M4 _ _ (by omega) (hJ3.th ha4) hM4 ⟨zpass_ok hzt.1 (fun s hs => (pok_1 (hF.sq hs (w := 1) (by decide)).2.2).1) hzs, by omega, by omega⟩ ?_
        rw [← hr]
        have ew : zpass p (zt (zready p (o i) 0)) (zS F (zready p (o i) 0) st mn (p 8 0) (8 * way + k) wk) (8 * way + k) = max 0 (min 99 (wk (8 * way + k) + zW F (zready p (o i) 0) (max 0 (st (8 * way + k) - wk (8 * way + k) - max 0 (mn - p 8 0))) (8 * way + k) mn) - zt (zready p (o i) 0) * p 1 (8 * way + k)) := by
          unfold zpass zS zup
          rw [if_pos rfl, if_pos q]
          rfl
        rw [ew]
  have hw0 : ((∀ s, s < 24 → 0 ≤ dwk I s ∧ dwk I s ≤ 99) ∧ 0 ≤ (I 25 2).toInt ∧ (I 25 2).toInt ≤ 100000 + 18 * ((0 : Nat) : Int)) := ⟨hz.1, hz.2.1, by simp; omega⟩
  have hb1 : ag scC [] I J1 := ha.cl ha1
  have hJJ1 : ag [52, 53, 54, 21, 22, 23] [] J J1 := ha1.up rfl rfl
  cases b with
  | false =>
    have hy' : y = 0 := hy
    rw [if_pos hy']
    have e0 : p 0 (8 * way + k) = p 0 (8 * way + k) - (if false = true then p 3 (8 * way + k) else 0) := by simp
    exact ⟨_, key (p 0) (zst0 hF) e0 n 0 J1 (dwk I) (I 25 2).toInt (by omega) hJJ1 hJ1 hw0 (by rw [e0]; exact hR)⟩
  | true =>
    have hy' : y = 1 := hy
    rw [if_neg (by rw [hy']; decide)]
    have b3 := pok_3 (hF.sq hk (w := 3) (by decide)).2.2
    have b0 := pok_0 (hF.sq hk (w := 0) (by decide)).2.2
    refine tX3_thin i52 (hF.ag hb1 rfl) hJ1 (zst0 hF) hx hk (fun J2 ha2 hJ2 => ?_)
    have e1 : zup (p 0) (8 * way + k) (p 0 (8 * way + k) - p 3 (8 * way + k)) (8 * way + k) = p 0 (8 * way + k) - (if true = true then p 3 (8 * way + k) else 0) := by
      unfold zup; rw [if_pos rfl, if_pos rfl]
    have hst : zstok (zup (p 0) (8 * way + k) (p 0 (8 * way + k) - p 3 (8 * way + k))) := fun s hs => by
      unfold zup
      by_cases q : s = 8 * way + k
      · rw [if_pos q]; omega
      · rw [if_neg q]; exact zst0 hF s hs
    exact ⟨_, key _ hst e1 n 0 J2 (dwk I) (I 25 2).toInt (by omega) (hJJ1.th ha2) hJ2 hw0 (by rw [e1]; exact hR)⟩
theorem tX1_look {x : Int32} {way n : Nat} {o : Nat → Nat} {J : jS} (hF : Fr G l F g p I) (ha : ag scC [] I J) (hO : Od J o n) (ho : ∀ i, i < n → (o i : Int) < g) (hz : zok (dwk I) (I 25 2).toInt) (hmn : (I 25 2).toInt ≤ 100000) (hx : x.toInt = way) (hw : way < 3)
    (h : ∀ J', ag scC [] I J' → Od J' o n → (∀ k, k < 8 → (J' 55 k).toInt = aZ F p I way ((List.range' 0 n).map o) k ∧ (J' 56 k).toInt = aB F p I way ((List.range' 0 n).map o) k) → Qv J' L) : cV G l mX1_look (d + 8) [.ref 51, .ref 25, .int x, .ref 31] J L Qv := by
  have i25 : isIce 25 := by unfold isIce; decide
  refine wX1_look_ok i25 (Q := fun v I' L' => v = none ∧ Qv I' L') ?_
  unfold wX1_look
  have key : ∀ (m i : Nat) M, i + m = 8 → ag scC [] I M → Od M o n → (∀ k, k < i → (M 55 k).toInt = aZ F p I way ((List.range' 0 n).map o) k ∧ (M 56 k).toInt = aB F p I way ((List.range' 0 n).map o) k) → wX1_look_3 G l (d + 7) 25 (fun v I' L' => v = none ∧ Qv I' L') (m + 1) x (Int32.ofNat i) M L := by
    intro m
    induction m with
    | zero =>
      intro i M hi haM hOM hv
      have : i = 8 := by omega
      subst this
      unfold wX1_look_3
      rw [if_pos (by decide)]
      exact ⟨rfl, h M haM hOM hv⟩
    | succ m ih =>
      intro i M hi haM hOM hv
      have hFM := hF.ag haM rfl
      have x8 : (x * 8).toInt = way * 8 := by rw [zmul (by rw [hx, zl_8]; omega) (by rw [hx, zl_8]; omega), hx, zl_8]
      have xk : (x * 8 + Int32.ofNat i).toInt = ((8 * way + i : Nat) : Int) := by rw [zadd (by rw [x8, zo (by omega)]; omega) (by rw [x8, zo (by omega)]; omega), x8, zo (by omega)]; omega
      obtain ⟨q1, -, q2⟩ := hFM.sq (s := 8 * way + i) (by omega) (w := 2) (by decide)
      have q2 := pok_2 q2
      unfold wX1_look_3
      rw [if_neg (by rw [zle, zl_8, zo (by omega)]; omega)]
      refine tX7_get' xk (b := 2) (v := p 2 (8 * way + i)) (by decide) (by omega) (by decide) q1 (fun r1 h1 => ?_)
      refine tX1_holdsAll (d := d) (b := false) hF haM hOM ho hz hmn xk (by omega) rfl (fun M2 ha2 => ?_)
      have hb2 : ag scC [] I M2 := haM.cl ha2
      have hO2 := hOM.ag ha2 rfl rfl
      have fin : ∀ (t0 t1 : Int32) M3, t0 = b01 (hB F p I way ((List.range' 0 n).map o) i false = true) → t1 = b01 (hB F p I way ((List.range' 0 n).map o) i true = true) → ag [52, 53, 54, 21, 22, 23] [] M2 M3 → wX1_look_67 G l (d + 7) 25 (fun z0 z1 I L => wX1_look_3 G l (d + 7) 25 (fun v I' L' => v = none ∧ Qv I' L') (m + 1) z0 z1 I L) (fun v I' L' => v = none ∧ Qv I' L') x (Int32.ofNat i) r1 t0 t1 M3 L := fun t0 t1 M3 ht0 ht1 ha3 => by
        have hb3 : ag scC [] I M3 := hb2.cl ha3
        have v55 : ∀ k, M3 55 k = M 55 k := fun k => by rw [ha3.c 55, ha2.c 55]
        have v56 : ∀ k, M3 56 k = M 56 k := fun k => by rw [ha3.c 56, ha2.c 56]
        have t0v : t0.toInt = if hB F p I way ((List.range' 0 n).map o) i false = true then 1 else 0 := by
          rw [ht0]
          by_cases q : hB F p I way ((List.range' 0 n).map o) i false = true
          · rw [b01_pos q, if_pos q]; rfl
          · rw [b01_neg q, if_neg q]; rfl
        have t1v : t1.toInt = if hB F p I way ((List.range' 0 n).map o) i true = true then 1 else 0 := by
          rw [ht1]
          by_cases q : hB F p I way ((List.range' 0 n).map o) i true = true
          · rw [b01_pos q, if_pos q]; rfl
          · rw [b01_neg q, if_neg q]; rfl
        have s12 : (12 - r1).toInt = 12 - p 2 (8 * way + i) := by rw [zsub (by rw [h1, zl_12]; omega) (by rw [h1, zl_12]; omega), h1, zl_12]
        have eZ : (t0 * (12 - r1) + t1 * r1).toInt = aZ F p I way ((List.range' 0 n).map o) i := by
          unfold aZ
          by_cases q : hB F p I way ((List.range' 0 n).map o) i false = true
          · rw [if_pos q] at t0v ⊢
            by_cases q' : hB F p I way ((List.range' 0 n).map o) i true = true
            · rw [if_pos q'] at t1v ⊢
              have m1 : (t0 * (12 - r1)).toInt = 12 - p 2 (8 * way + i) := by rw [zmul (by rw [t0v, s12]; omega) (by rw [t0v, s12]; omega), t0v, s12]; omega
              have m2 : (t1 * r1).toInt = p 2 (8 * way + i) := by rw [zmul (by rw [t1v, h1]; omega) (by rw [t1v, h1]; omega), t1v, h1]; omega
              rw [zadd (by rw [m1, m2]; omega) (by rw [m1, m2]; omega), m1, m2]
            · rw [if_neg q'] at t1v ⊢
              have m1 : (t0 * (12 - r1)).toInt = 12 - p 2 (8 * way + i) := by rw [zmul (by rw [t0v, s12]; omega) (by rw [t0v, s12]; omega), t0v, s12]; omega
              have m2 : (t1 * r1).toInt = 0 := by rw [zmul (by rw [t1v, h1]; omega) (by rw [t1v, h1]; omega), t1v, h1]; omega
              rw [zadd (by rw [m1, m2]; omega) (by rw [m1, m2]; omega), m1, m2]
          · rw [if_neg q] at t0v ⊢
            by_cases q' : hB F p I way ((List.range' 0 n).map o) i true = true
            · rw [if_pos q'] at t1v ⊢
              have m1 : (t0 * (12 - r1)).toInt = 0 := by rw [zmul (by rw [t0v, s12]; omega) (by rw [t0v, s12]; omega), t0v, s12]; omega
              have m2 : (t1 * r1).toInt = p 2 (8 * way + i) := by rw [zmul (by rw [t1v, h1]; omega) (by rw [t1v, h1]; omega), t1v, h1]; omega
              rw [zadd (by rw [m1, m2]; omega) (by rw [m1, m2]; omega), m1, m2]
            · rw [if_neg q'] at t1v ⊢
              have m1 : (t0 * (12 - r1)).toInt = 0 := by rw [zmul (by rw [t0v, s12]; omega) (by rw [t0v, s12]; omega), t0v, s12]; omega
              have m2 : (t1 * r1).toInt = 0 := by rw [zmul (by rw [t1v, h1]; omega) (by rw [t1v, h1]; omega), t1v, h1]; omega
              rw [zadd (by rw [m1, m2]; omega) (by rw [m1, m2]; omega), m1, m2]
        have eB : (t0 * 12).toInt = aB F p I way ((List.range' 0 n).map o) i := by
          unfold aB
          by_cases q : hB F p I way ((List.range' 0 n).map o) i false = true
          · rw [if_pos q] at t0v ⊢
            rw [zmul (by rw [t0v, zl_12]; omega) (by rw [t0v, zl_12]; omega), t0v, zl_12]; omega
          · rw [if_neg q] at t0v ⊢
            rw [zmul (by rw [t0v, zl_12]; omega) (by rw [t0v, zl_12]; omega), t0v, zl_12]; omega
        unfold wX1_look_67
        refine ⟨by rw [zin, zo (by omega)]; omega, ?_⟩
        rw [zon (by omega), zsucc]
        have hau : ag [55, 56] [] M3 (u2 (u2 M3 55 i (t0 * (12 - r1) + t1 * r1)) 56 i (t0 * 12)) := agu (agu ag.rf (by simp) (by decide)) (by simp) (by decide)
        refine ih (i + 1) _ (by omega) (hb3.cl hau) ((hO2.ag ha3 rfl rfl).ag hau rfl rfl) (fun k hk => ?_)
        have g55 : (u2 (u2 M3 55 i (t0 * (12 - r1) + t1 * r1)) 56 i (t0 * 12)) 55 k = if k = i then t0 * (12 - r1) + t1 * r1 else M3 55 k := by
          rw [u2n (by decide), u2_ap]
          by_cases e : k = i
          · rw [if_pos ⟨rfl, e⟩, if_pos e]
          · rw [if_neg (fun z => e z.2), if_neg e]
        have g56 : (u2 (u2 M3 55 i (t0 * (12 - r1) + t1 * r1)) 56 i (t0 * 12)) 56 k = if k = i then t0 * 12 else M3 56 k := by
          rw [u2_ap]
          by_cases e : k = i
          · rw [if_pos ⟨rfl, e⟩, if_pos e]
          · rw [if_neg (fun z => e z.2), if_neg e, u2n (by decide)]
        rw [g55, g56]
        by_cases e : k = i
        · rw [if_pos e, if_pos e, e]; exact ⟨eZ, eB⟩
        · rw [if_neg e, if_neg e, v55, v56]; exact hv k (by omega)
      have mid : ∀ t0 : Int32, t0 = b01 (hB F p I way ((List.range' 0 n).map o) i false = true) → wX1_look_48 G l (d + 7) 25 (fun z0 z1 I L => wX1_look_3 G l (d + 7) 25 (fun v I' L' => v = none ∧ Qv I' L') (m + 1) z0 z1 I L) (fun v I' L' => v = none ∧ Qv I' L') x (Int32.ofNat i) (x * 8 + Int32.ofNat i) r1 t0 M2 L := fun t0 ht0 => by
        unfold wX1_look_48
        refine tX1_holdsAll (d := d) (b := true) hF hb2 hO2 ho hz hmn xk (by omega) rfl (fun M3 ha3 => ifz (fun q => ?_) (fun q => ?_))
        · exact fin t0 0 M3 ht0 (by rw [b01_neg q]) ha3
        · exact fin t0 1 M3 ht0 (by rw [b01_pos q]) ha3
      refine ifz (fun q => ?_) (fun q => ?_)
      · exact mid 0 (by rw [b01_neg q])
      · exact mid 1 (by rw [b01_pos q])
  exact ⟨_, key 8 0 J (by omega) ha hO (fun k hk => by omega)⟩
end C5

/-! shift -/
def mvL (L : jL) (b db a da k : Nat) : jL := fun r => if r = b then (fun i => if db ≤ i ∧ i < db + k then L a (da + (i - db)) else L r i) else L r
theorem mvL_ap {L : jL} {b db a da k r i : Nat} : mvL L b db a da k r i = if r = b ∧ db ≤ i ∧ i < db + k then L a (da + (i - db)) else L r i := by
  unfold mvL
  by_cases h : r = b
  · subst h
    by_cases hi : db ≤ i ∧ i < db + k
    · rw [if_pos rfl, if_pos hi, if_pos ⟨rfl, hi⟩]
    · rw [if_pos rfl, if_neg hi, if_neg (fun q => hi q.2)]
  · rw [if_neg h, if_neg (fun q => h q.1)]
theorem mvL_zero {L : jL} {b db a da : Nat} : mvL L b db a da 0 = L := by
  funext r i
  rw [mvL_ap, if_neg (by omega)]
theorem mvL_succ {L : jL} {b db a da k : Nat} : u2L (mvL L b db a da k) b (db + k) (L a (da + k)) = mvL L b db a da (k + 1) := by
  funext r i
  rw [u2L_ap, mvL_ap, mvL_ap]
  by_cases h : r = b ∧ i = db + k
  · rw [if_pos h, if_pos (by omega)]
    congr 1
    omega
  · rw [if_neg h]
    by_cases h2 : r = b ∧ db ≤ i ∧ i < db + k
    · rw [if_pos h2, if_pos (by omega)]
    · rw [if_neg h2, if_neg (by omega)]
theorem mvL_src {L : jL} {b db a da k i : Nat} (h : a ≠ b) : mvL L b db a da k a i = L a i := by rw [mvL_ap, if_neg (fun q => h q.1)]
theorem jcpyL_mv {L : jL} {a b i j n : Nat} {x y z : Int32} (hx : x.toInt = i) (hy : y.toInt = j) (hz : z.toInt = n) : jcpyL L a b x y z = mvL L b j a i n := by
  funext r q
  rw [mvL_ap]
  unfold jcpyL
  have e1 : x.toNatClampNeg = i := by rw [znat, hx]; omega
  have e2 : y.toNatClampNeg = j := by rw [znat, hy]; omega
  have e3 : z.toNatClampNeg = n := by rw [znat, hz]; omega
  by_cases h : r = b
  · rw [if_pos h]
    unfold va_cpy
    rw [e1, e2, e3]
    by_cases hi : j ≤ q ∧ q < j + n
    · rw [if_pos (by omega), if_pos (by omega)]
    · rw [if_neg (by omega), if_neg (by omega)]
  · rw [if_neg h, if_neg (fun z => h z.1)]
section SF
variable {LR : jLR} {G : jG} {l : Launch} {d k : Nat} {I : jS} {L : jL} {K : Int32 → Int32 → jS → jL → Prop}
theorem tX9_hasSpan {x y z : Int32} {Q : Int32 → jS → jL → Prop} (hx : 0 ≤ x.toInt ∧ x.toInt < 6) (hs : 0 ≤ (I 59 x.toInt.toNat).toInt ∧ (I 59 x.toInt.toNat).toInt ≤ 60) (h : Q (b01 (0 ≤ y.toInt ∧ 0 ≤ z.toInt ∧ y.toInt + z.toInt ≤ (I 59 x.toInt.toNat).toInt)) I L) : cI G l mX9_hasSpan (d + 3) [.ref 57, .int x, .int y, .int z] I L Q := by
  refine wX9_hasSpan_ok ?_
  unfold wX9_hasSpan
  refine tX9_sizeOf ?_
  rw [if_pos hx]
  refine ife (fun c => ri ?_) (fun c => ife (fun c2 => ri ?_) (fun c2 => ife (fun c3 => ri ?_) (fun c3 => ife (fun c4 => ri ?_) (fun c4 => ri ?_))))
  · rw [zlt, z0] at c
    rw [b01_neg (by omega)] at h; exact h
  · rw [zlt] at c2
    rw [zlt, z0] at c
    by_cases hz : 0 ≤ z.toInt
    · rw [b01_neg (by omega)] at h; exact h
    · rw [b01_neg (by omega)] at h; exact h
  · rw [zlt, z0] at c3
    rw [b01_neg (by omega)] at h; exact h
  · rw [zlt, z0] at c
    rw [zlt] at c2
    rw [zlt, zsub (by omega) (by omega)] at c4
    rw [b01_neg (by omega)] at h; exact h
  · rw [zlt, z0] at c c3
    rw [zlt] at c2
    rw [zlt, zsub (by omega) (by omega)] at c4
    rw [b01_pos (by omega)] at h; exact h
theorem tX9_areAlike {x y : Int32} {Q : Int32 → jS → jL → Prop} (hx : 0 ≤ x.toInt ∧ x.toInt < 6) (hy : 0 ≤ y.toInt ∧ y.toInt < 6) (h : Q (b01 (0 ≤ (I 58 x.toInt.toNat).toInt ∧ 0 ≤ (I 58 y.toInt.toNat).toInt ∧ I 58 x.toInt.toNat = I 58 y.toInt.toNat)) I L) : cI G l mX9_areAlike (d + 3) [.ref 57, .int x, .int y] I L Q := by
  refine wX9_areAlike_ok ?_
  unfold wX9_areAlike
  refine tX9_isRow (ifz (fun c => ri ?_) (fun c => tX9_isRow (ifz (fun c2 => ri ?_) (fun c2 => ⟨by rw [zin]; omega, by rw [zin]; omega, ?_⟩))))
  · rw [b01_neg (fun q => c ⟨hx, q.1⟩)] at h; exact h
  · rw [b01_neg (fun q => c2 ⟨hy, q.2.1⟩)] at h; exact h
  · rw [znat, znat]
    refine ife (fun c3 => ri ?_) (fun c3 => ri ?_)
    · rw [b01_pos ⟨c.2, c2.2, c3⟩] at h; exact h
    · rw [b01_neg (fun q => c3 q.2.2)] at h; exact h
theorem z60b {x y z : Int32} {e j m : Nat} (h : x.toInt = e) (he : e < 6) (hy : y.toInt = j) (hj : j ≤ 1000) (hz : z.toInt = m) (hm : m ≤ 1000) : (60 * x + y + z).toInt = 60 * (e : Int) + j + m := by
  rw [zadd (by rw [z60a h he hy hj, hz]; omega) (by rw [z60a h he hy hj, hz]; omega), z60a h he hy hj, hz]
theorem shift_150 {Q : Option Value → jS → jL → Prop} {x y z : Int32} {e j n : Nat} (hx : x.toInt = e) (he : e < 6) (hy : y.toInt = j) (hz : z.toInt = n) (hn : j + n ≤ 60) (h : Q (some (.int z)) I (mvL L 91 (60 * e + j) 92 0 n)) : ∀ m k, k + m = n → wX12_shift_150 G l d Q (m + 1) x y z (Int32.ofNat k) I (mvL L 91 (60 * e + j) 92 0 k) := by
  intro m
  induction m with
  | zero =>
    intro k hk
    have : k = n := by omega
    subst this
    unfold wX12_shift_150
    rw [if_pos (by rw [zle, zo (by omega)]; omega)]
    exact h
  | succ m ih =>
    intro k hk
    unfold wX12_shift_150
    have e1 := z60b hx he hy (by omega) (zo (k := k) (by omega)) (by omega)
    rw [if_neg (by rw [zle, zo (by omega)]; omega)]
    refine ⟨by rw [zin, zo (by omega)]; omega, by rw [zin, e1]; omega, ?_⟩
    rw [zon (by omega), zsucc, mvL_src (by decide), znat, e1]
    have e2 : (60 * (e : Int) + j + k).toNat = 60 * e + j + k := by omega
    have e3 : L 92 k = L 92 (0 + k) := by rw [Nat.zero_add]
    rw [e2, e3, mvL_succ]
    exact ih (k + 1) (by omega)
theorem shift_113 {Q : Option Value → jS → jL → Prop} {x y x' y' z : Int32} {e j n : Nat} (hx : x.toInt = e) (he : e < 6) (hy : y.toInt = j) (hz : z.toInt = n) (hn : j + n ≤ 60) (h : ∃ f, wX12_shift_150 G l d Q f x' y' z 0 I (mvL L 92 0 91 (60 * e + j) n)) : ∀ m k, k + m = n → wX12_shift_113 G l d Q (m + 1) x y x' y' z (Int32.ofNat k) I (mvL L 92 0 91 (60 * e + j) k) := by
  intro m
  induction m with
  | zero =>
    intro k hk
    have : k = n := by omega
    subst this
    unfold wX12_shift_113
    rw [if_pos (by rw [zle, zo (by omega)]; omega)]
    exact h
  | succ m ih =>
    intro k hk
    unfold wX12_shift_113
    have e1 := z60b hx he hy (by omega) (zo (k := k) (by omega)) (by omega)
    rw [if_neg (by rw [zle, zo (by omega)]; omega)]
    refine ⟨by rw [zin, e1]; omega, by rw [zin, zo (by omega)]; omega, ?_⟩
    rw [zon (by omega), zsucc, mvL_src (by decide), znat, e1]
    have e2 : (60 * (e : Int) + j + k).toNat = 60 * e + j + k := by omega
    have e3 : u2L (mvL L 92 0 91 (60 * e + j) k) 92 k (L 91 (60 * e + j + k)) = mvL L 92 0 91 (60 * e + j) (k + 1) := by
      have := mvL_succ (L := L) (b := 92) (db := 0) (a := 91) (da := 60 * e + j) (k := k)
      rw [Nat.zero_add] at this
      exact this
    rw [e2, e3]
    exact ih (k + 1) (by omega)
theorem T_shift {a b c e n : Int32} (h : Inv LR k I L) (hk : ∀ r I' L', Inv LR (k + 1) I' L' → K r r I' L') :
    cI G l mX11_shift (d + 9) [.ref 0, .int a, .int b, .int c, .int e, .int n] I L (fun r I1 L1 => cI G l mX12_shift (d + 9) [.ref 71, .int a, .int b, .int c, .int e, .int n] I1 L1 (fun r' I2 L2 => K r r' I2 L2)) := by
  obtain ⟨hP, hC, hI, hT, hR, hD, hG, hA, hS, hM⟩ := id h
  by_cases hx : (0 ≤ a.toInt ∧ a.toInt < 6) ∧ (0 ≤ c.toInt ∧ c.toInt < 6)
  case neg =>
    refine two (P := fun r' I1 L1 => I1 = I ∧ r' = -1 ∧ L1 = L) (fun Q hq => ?_) (fun r' I1 L1 hp Q hq => ?_) hk
    · refine wX11_shift_ok ?_
      unfold wX11_shift
      exact tX11_isShelf (ifz (fun c1 => ri (hq _ _ _ ⟨rfl, rfl, rfl⟩)) (fun c1 => tX11_isShelf (ifz (fun c2 => ri (hq _ _ _ ⟨rfl, rfl, rfl⟩)) (fun c2 => absurd ⟨c1, c2⟩ hx))))
    · obtain ⟨rfl, rfl, rfl⟩ := hp
      refine wX12_shift_ok ?_
      unfold wX12_shift
      exact tX12_isShelf (ifz (fun c1 => ri (hq _ _ h.up)) (fun c1 => tX12_isShelf (ifz (fun c2 => ri (hq _ _ h.up)) (fun c2 => absurd ⟨c1, c2⟩ hx))))
  obtain ⟨hx, hy⟩ := hx
  have hin : vp_in a 6 := by rw [zin]; omega
  have hin2 : vp_in c 6 := by rw [zin]; omega
  have he6 : a.toInt.toNat < 6 := by omega
  have hae : a.toInt = (a.toInt.toNat : Int) := by omega
  have hf6 : c.toInt.toNat < 6 := by omega
  have hcf : c.toInt = (c.toInt.toNat : Int) := by omega
  obtain ⟨n1, n2, n3, n4⟩ := InvS_neg hS hA.2.1.2 he6
  obtain ⟨m1, m2, m3, m4⟩ := InvS_neg hS hA.2.1.2 hf6
  have hSx := hS c.toInt.toNat hf6
  have hSa := fun i => InvS_it (j := i) hS he6
  have hSc := fun i => InvS_it (j := i) hS hf6
  generalize hea : a.toInt.toNat = ea at *
  generalize hec : c.toInt.toNat = ec at *
  refine two (P := fun r' I1 L1 => I1 = I ∧
    ((r' = -11 ∧ L1 = L ∧ ((I 89 ea).toInt < 0 ∨ (I 89 ec).toInt < 0)) ∨
     (0 ≤ (I 89 ea).toInt ∧ 0 ≤ (I 89 ec).toInt ∧
      ((r' = -12 ∧ L1 = L ∧ ((I 89 ea).toInt < 50 ∨ (I 89 ea).toInt ≠ (I 89 ec).toInt)) ∨
       (50 ≤ (I 89 ea).toInt ∧ (I 89 ea).toInt = (I 89 ec).toInt ∧
        ((r' = -13 ∧ L1 = L ∧ ¬ ((0 ≤ b.toInt ∧ 0 ≤ n.toInt ∧ b.toInt + n.toInt ≤ (I 90 ea).toInt) ∧ (0 ≤ e.toInt ∧ 0 ≤ n.toInt ∧ e.toInt + n.toInt ≤ (I 90 ec).toInt))) ∨
         (((0 ≤ b.toInt ∧ 0 ≤ n.toInt ∧ b.toInt + n.toInt ≤ (I 90 ea).toInt) ∧ (0 ≤ e.toInt ∧ 0 ≤ n.toInt ∧ e.toInt + n.toInt ≤ (I 90 ec).toInt)) ∧ r' = n ∧ L1 = mvL L (62 + ec) e.toInt.toNat (62 + ea) b.toInt.toNat n.toInt.toNat))))))) (fun Q hq => ?_) (fun r' I1 L1 hp Q hq => ?_) hk
  · refine wX11_shift_ok ?_
    unfold wX11_shift
    refine tX11_isShelf (ifz (fun c1 => absurd hx c1) (fun _ => tX11_isShelf (ifz (fun c1 => absurd hy c1) (fun _ => ?_))))
    refine tX9_isEmpty (ifz (fun c1 => tX9_isEmpty (ifz (fun c2 => ?_) (fun c2 => ri (hq _ _ _ ⟨rfl, Or.inl ⟨rfl, rfl, ?_⟩⟩)))) (fun c1 => ri (hq _ _ _ ⟨rfl, Or.inl ⟨rfl, rfl, ?_⟩⟩)))
    · rw [hea] at c1
      rw [hec] at c2
      have p1 : 0 ≤ (I 89 ea).toInt := by
        have : ¬ (I 89 ea).toInt < 0 := fun q => c1 (Or.inr (n1.mpr q))
        omega
      have p2 : 0 ≤ (I 89 ec).toInt := by
        have : ¬ (I 89 ec).toInt < 0 := fun q => c2 (Or.inr (m1.mpr q))
        omega
      refine tX9_areAlike hx hy (ifz (fun c3 => ri (hq _ _ _ ⟨rfl, Or.inr ⟨p1, p2, Or.inl ⟨rfl, rfl, ?_⟩⟩⟩)) (fun c3 => ?_))
      · rw [hea, hec] at c3
        by_cases h5 : (I 89 ea).toInt < 50
        · exact Or.inl h5
        · refine Or.inr (fun q => c3 ?_)
          have s1 := n2.mpr (by omega)
          have s2 := m2.mpr (by omega)
          have t1 := n3 s1
          have t2 := m3 s2
          exact ⟨s1, s2, by rw [zeq]; omega⟩
      · rw [hea, hec] at c3
        obtain ⟨s1, s2, s3⟩ := c3
        have t1 := n3 s1
        have t2 := m3 s2
        rw [t1.2.2.1, t2.2.2.1] at hq
        have p3 : (I 89 ea).toInt = (I 89 ec).toInt := by rw [t1.2.1, t2.2.1, s3]
        have p4 : 50 ≤ (I 89 ea).toInt := n2.mp s1
        refine tX9_hasSpan hx (by rw [hea]; omega) ?_
        rw [hea]
        refine ifz (fun c4 => ri (hq _ _ _ ⟨rfl, Or.inr ⟨p1, p2, Or.inr ⟨p4, p3, Or.inl ⟨rfl, rfl, fun q => c4 q.1⟩⟩⟩⟩)) (fun c4 => ?_)
        refine tX9_hasSpan hy (by rw [hec]; omega) ?_
        rw [hec]
        refine ifz (fun c5 => ri (hq _ _ _ ⟨rfl, Or.inr ⟨p1, p2, Or.inr ⟨p4, p3, Or.inl ⟨rfl, rfl, fun q => c5 q.2⟩⟩⟩⟩)) (fun c5 => ?_)
        refine wX9_move_ok (Q := fun v I' L' => v = none ∧ _) ?_
        unfold wX9_move
        refine tX9_hasSpan hx (by rw [hea]; omega) ?_
        rw [hea]
        refine ifz (fun q => absurd c4 q) (fun _ => ?_)
        refine tX9_hasSpan hy (by rw [hec]; omega) ?_
        rw [hec]
        refine ifz (fun q => absurd c5 q) (fun _ => ?_)
        refine tX11_isShelf (ifz (fun c1 => absurd hx c1) (fun _ => tX11_isShelf (ifz (fun c1 => absurd hy c1) (fun _ => ⟨hin, hin2, ?_, rfl, ri ?_⟩))))
        · refine ⟨by rw [zlt, z0]; omega, by rw [zlt, z0]; omega, by rw [zlt, z0]; omega, by simp only [znat]; omega, by simp only [znat]; omega⟩
        · refine hq _ _ _ ⟨rfl, Or.inr ⟨p1, p2, Or.inr ⟨p4, p3, Or.inr ⟨⟨c4, c5⟩, rfl, ?_⟩⟩⟩⟩
          rw [znat, znat, hea, hec]
          exact jcpyL_mv (by omega) (by omega) (by omega)
    · rcases c2 with q | q
      · exact absurd hy q
      · rw [hec] at q; exact Or.inr (m1.mp q)
    · rcases c1 with q | q
      · exact absurd hx q
      · rw [hea] at q; exact Or.inl (n1.mp q)
  · obtain ⟨rfl, hp⟩ := hp
    refine wX12_shift_ok ?_
    unfold wX12_shift
    refine tX12_isShelf (ifz (fun c1 => absurd hx c1) (fun _ => tX12_isShelf (ifz (fun c1 => absurd hy c1) (fun _ => ⟨hin, ?_⟩))))
    rw [znat, znat, hea, hec]
    refine ife (fun c1 => ?_) (fun c1 => ⟨hin2, ife (fun c2 => ?_) (fun c2 => ?_)⟩)
    · rw [zlt, z0] at c1
      rcases hp with ⟨rfl, rfl, -⟩ | ⟨q, -⟩
      · exact ri (hq _ _ h.up)
      · omega
    · rw [zlt, z0] at c1
      rw [zle, z0] at c2
      rcases hp with ⟨-, -, q⟩ | ⟨-, -, hp⟩
      · omega
      · refine ife (fun c3 => ?_) (fun c3 => ife (fun c4 => ?_) (fun c4 => ?_))
        · rw [zlt, zl_50] at c3
          rcases hp with ⟨rfl, rfl, -⟩ | ⟨q, -⟩
          · exact ri (hq _ _ h.up)
          · omega
        · rw [zlt, zl_50] at c3
          rw [zeq] at c4
          rcases hp with ⟨-, -, q⟩ | ⟨-, -, hp⟩
          · omega
          · have s1 := n2.mpr (by omega)
            have s2 := m2.mpr (by omega)
            have t1 := n3 s1
            have t2 := m3 s2
            rw [t1.2.2.1, t2.2.2.1] at hp ⊢
            refine ife (fun d1 => ?_) (fun d1 => ife (fun d2 => ?_) (fun d2 => ife (fun d3 => ?_) (fun d3 => ife (fun d4 => ?_) (fun d4 => ife (fun d5 => ?_) (fun d5 => ?_)))))
            · rw [zlt, z0] at d1
              rcases hp with ⟨rfl, rfl, -⟩ | ⟨q, -⟩
              · exact ri (hq _ _ h.up)
              · omega
            · rw [zlt, z0] at d1 d2
              rcases hp with ⟨rfl, rfl, -⟩ | ⟨q, -⟩
              · exact ri (hq _ _ h.up)
              · omega
            · rw [zlt, z0] at d1 d2 d3
              rcases hp with ⟨rfl, rfl, -⟩ | ⟨q, -⟩
              · exact ri (hq _ _ h.up)
              · omega
            · rw [zlt, z0] at d1 d2 d3
              rw [zlt, zsub (by have := zrange n; omega) (by have := zrange n; omega)] at d4
              rcases hp with ⟨rfl, rfl, -⟩ | ⟨q, -⟩
              · exact ri (hq _ _ h.up)
              · omega
            · rw [zlt, z0] at d1 d2 d3
              rw [zlt, zsub (by have := zrange n; omega) (by have := zrange n; omega)] at d4
              rw [zle, zsub (by have := zrange n; omega) (by have := zrange n; omega)] at d5
              rcases hp with ⟨-, -, q⟩ | ⟨q, rfl, rfl⟩
              · exact absurd ⟨⟨by omega, by omega, by omega⟩, ⟨by omega, by omega, by omega⟩⟩ q
              · have f1 := shift_150 (G := G) (l := l) (d := d + 8) (I := I1) (L := mvL (mvL L (62 + ec) e.toInt.toNat (62 + ea) b.toInt.toNat r'.toInt.toNat) 92 0 91 (60 * ea + b.toInt.toNat) r'.toInt.toNat) (Q := fun v I' L' => ∃ r, v = some (.int r) ∧ Q r I' L') (x := c) (y := e) (z := r') (e := ec) (j := e.toInt.toNat) (n := r'.toInt.toNat) (by omega) hf6 (by omega) (by omega) (by omega) ?_ r'.toInt.toNat 0 (by omega)
                · have f2 := shift_113 (G := G) (l := l) (d := d + 8) (I := I1) (L := mvL L (62 + ec) e.toInt.toNat (62 + ea) b.toInt.toNat r'.toInt.toNat) (Q := fun v I' L' => ∃ r, v = some (.int r) ∧ Q r I' L') (x := a) (y := b) (x' := c) (y' := e) (z := r') (e := ea) (j := b.toInt.toNat) (n := r'.toInt.toNat) (by omega) he6 (by omega) (by omega) (by omega) ⟨_, by rw [mvL_zero] at f1; exact f1⟩ r'.toInt.toNat 0 (by omega)
                  rw [mvL_zero] at f2
                  exact ⟨_, f2⟩
                · refine ri (hq _ _ ?_)
                  refine ⟨hP, hC, hI.ag (ag.rf (S := []) (T := [])) rfl (by omega), hT, hR, hD, hG.ag (ag.rf (S := []) (T := [])) rfl (by omega), hA, ?_, hM⟩
                  obtain ⟨⟨qa1, qa2, qa3⟩, qb1, qb2, qb3⟩ := q
                  have hbn : b.toInt.toNat + r'.toInt.toNat ≤ 60 := by omega
                  have hen : e.toInt.toNat + r'.toInt.toNat ≤ 60 := by omega
                  have hbytes : ∀ j, j < 60 → I1 58 ea = 0 → -128 ≤ (L (62 + ea) j).toInt ∧ (L (62 + ea) j).toInt ≤ 127 := fun j hj z => by
                    rcases (hS ea he6).1 with o | o | o
                    · rw [o.1] at z; exact absurd z (by decide)
                    · rw [o.1] at z; exact absurd z (by decide)
                    · exact o.2.2.2.2.2.2.2 z j hj
                  generalize b.toInt.toNat = j1 at *
                  generalize e.toInt.toNat = j2 at *
                  generalize r'.toInt.toNat = n' at *
                  have val : ∀ r i, mvL (mvL (mvL L (62 + ec) j2 (62 + ea) j1 n') 92 0 91 (60 * ea + j1) n') 91 (60 * ec + j2) 92 0 n' r i = if r = 91 ∧ 60 * ec + j2 ≤ i ∧ i < 60 * ec + j2 + n' then L 91 (60 * ea + j1 + (i - (60 * ec + j2))) else if r = 92 ∧ i < n' then L 91 (60 * ea + j1 + i) else if r = 62 + ec ∧ j2 ≤ i ∧ i < j2 + n' then L (62 + ea) (j1 + (i - j2)) else L r i := fun r i => by
                    rw [mvL_ap]
                    by_cases h1 : r = 91 ∧ 60 * ec + j2 ≤ i ∧ i < 60 * ec + j2 + n'
                    · rw [if_pos h1, if_pos h1, mvL_ap, if_pos (by omega), mvL_ap, if_neg (by omega)]
                      congr 1
                      omega
                    · rw [if_neg h1, if_neg h1, mvL_ap]
                      by_cases h2 : r = 92 ∧ i < n'
                      · rw [if_pos (by omega), if_pos h2, mvL_ap, if_neg (by omega)]
                        congr 1
                      · rw [if_neg (by omega), if_neg h2, mvL_ap]
                  refine InvS_one hS hf6 (fun r hr j hj => rfl) rfl (fun i hi1 hi2 => ?_) (fun i q hi1 hi2 hq1 => ?_) ?_
                  · funext z
                    rw [val, if_neg (by omega), if_neg (by omega), if_neg (by omega)]
                  · rw [val, if_neg (by omega), if_neg (by omega), if_neg (by omega)]
                  · refine ⟨Or.inr (Or.inr ?_), fun _ i hi => ?_⟩
                    · rcases hSx.1 with o | o | o
                      · rw [o.1] at s2; exact absurd s2 (by decide)
                      · rw [o.1] at s2; exact absurd s2 (by decide)
                      · refine ⟨o.1, o.2.1, o.2.2.1, o.2.2.2.1, o.2.2.2.2.1, o.2.2.2.2.2.1, o.2.2.2.2.2.2.1, fun z i hi => ?_⟩
                        rw [val, if_neg (by omega), if_neg (by omega)]
                        by_cases hj : 62 + ec = 62 + ec ∧ j2 ≤ i ∧ i < j2 + n'
                        · rw [if_pos hj]
                          refine hbytes _ (by omega) ?_
                          rw [zeq, z0]
                          have := t1.2.1
                          have := t2.2.1
                          rw [zeq, z0] at z
                          omega
                        · rw [if_neg hj]
                          exact o.2.2.2.2.2.2.2 z i hi
                    · rw [val, val]
                      by_cases hj : j2 ≤ i ∧ i < j2 + n'
                      · rw [if_pos (by omega), if_neg (by omega), if_neg (by omega), if_pos ⟨rfl, hj⟩]
                        have e1 : 60 * ea + j1 + (60 * ec + i - (60 * ec + j2)) = 60 * ea + (j1 + (i - j2)) := by omega
                        rw [e1]
                        exact hSa _ s1 (by omega)
                      · rw [if_neg (by omega), if_neg (by omega), if_neg (by omega), if_neg (by omega), if_neg (by omega), if_neg (by omega)]
                        exact hSc _ s2 hi
            · rw [zlt, z0] at d1 d2 d3
              rw [zlt, zsub (by have := zrange n; omega) (by have := zrange n; omega)] at d4
              rw [zle, zsub (by have := zrange n; omega) (by have := zrange n; omega)] at d5
              rcases hp with ⟨rfl, rfl, -⟩ | ⟨q, -⟩
              · exact ri (hq _ _ h.up)
              · omega
        · rw [zlt, zl_50] at c3
          rw [zeq] at c4
          rcases hp with ⟨rfl, rfl, -⟩ | ⟨-, q, -⟩
          · exact ri (hq _ _ h.up)
          · omega
    · rw [zle, z0] at c2
      rcases hp with ⟨rfl, rfl, -⟩ | ⟨-, q, -⟩
      · exact ri (hq _ _ h.up)
      · omega
end SF

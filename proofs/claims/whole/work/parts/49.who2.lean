/-! who, its loops -/
section W2
variable {G : jG} {l : Launch} {d k : Nat} {I : jS} {L : jL} {K : Int32 → Int32 → jS → jL → Prop}
theorem T_who {a b c : Int32} (h : Inv (LRl G l) k I L) (hk5 : k ≤ 512) (hk : ∀ r I' L', Inv (LRl G l) (k + 1) I' L' → K r r I' L') :
    cI G l mX11_who (d + 109) [.ref 0, .int a, .int b, .int c] I L (fun r I1 L1 => cI G l mX12_who (d + 109) [.ref 71, .int a, .int b, .int c] I1 L1 (fun r' I2 L2 => K r r' I2 L2)) := by
  obtain ⟨F, p, hF, hp⟩ := h.fr
  obtain ⟨hP, hC, hI, hT, hR, hD, hG, hA, hS, hM⟩ := id h
  have hz := dz h hk5
  have hmn := dmn h hk5
  have hg := hF.1
  have hgn : (I 1 1).toInt = ((I 1 1).toInt.toNat : Nat) := by omega
  generalize hgd : (I 1 1).toInt.toNat = gn at hgn
  have hI11 : I 1 1 = Int32.ofNat gn := zof hgn
  have hgn7 : gn ≤ 7 := by omega
  have h2g : 2 ^ gn ≤ 128 := by
    have : (2 : Nat) ^ gn ≤ 2 ^ 7 := Nat.pow_le_pow_right (by decide) hgn7
    exact this
  have hpos : 0 < 2 ^ gn := Nat.pow_pos (by decide)
  refine scr2 h (shV ((0 ≤ a.toInt ∧ a.toInt < 6) ∧ (0 ≤ b.toInt ∧ b.toInt < 3) ∧ (0 ≤ c.toInt ∧ c.toInt ≤ 2)) (I 89 a.toInt.toNat).toInt (if c.toInt = 0 then (zwho (whoB F p (shf8 L a.toInt.toNat) (I 59 a.toInt.toNat).toInt.toNat b.toInt.toNat gn (I 25 2).toInt) (2 ^ gn) 0 (0, -2, 0)).1 else if c.toInt = 1 then (zwho (whoB F p (shf8 L a.toInt.toNat) (I 59 a.toInt.toNat).toInt.toNat b.toInt.toNat gn (I 25 2).toInt) (2 ^ gn) 0 (0, -2, 0)).2.1 else (zwho (whoB F p (shf8 L a.toInt.toNat) (I 59 a.toInt.toNat).toInt.toNat b.toInt.toNat gn (I 25 2).toInt) (2 ^ gn) 0 (0, -2, 0)).2.2.toInt)) (fun Q hq => ?_) (fun I1 ha Q hq => ?_) hk
  · refine wX11_who_ok ?_
    unfold wX11_who
    refine tX11_isShelf (ifz (fun c1 => ri (hq _ _ (by rw [shV_no (fun q => c1 q.1)]; rfl) ag.rf)) (fun c1 => tX11_isWay (ifz (fun c2 => ri (hq _ _ (by rw [shV_no (fun q => c2 q.2.1)]; rfl) ag.rf)) (fun c2 => ife (fun c3 => ri (hq _ _ ?_ ag.rf)) (fun c3 => ife (fun c4 => ?_) (fun c4 => ri (hq _ _ ?_ ag.rf)))))))
    · rw [zlt, z0] at c3
      rw [shV_no (by omega)]; rfl
    · rw [zlt, z0] at c3
      rw [zle, zl_2] at c4
      have ok : (0 ≤ a.toInt ∧ a.toInt < 6) ∧ (0 ≤ b.toInt ∧ b.toInt < 3) ∧ (0 ≤ c.toInt ∧ c.toInt ≤ 2) := ⟨c1, c2, by omega⟩
      refine tX9_bytesRef hS hA.2.1.2 c1 ?_
      by_cases h50 : (I 89 a.toInt.toNat).toInt = 50
      · rw [bsV_50 h50, if_pos rfl]
        rw [shV_50 ok h50] at hq
        have hB := hS.byr hA.2.1.2 (by omega) h50
        have hae : a.toInt = (a.toInt.toNat : Nat) := by omega
        have hbw : b.toInt = (b.toInt.toNat : Nat) := by omega
        have hw3 : b.toInt.toNat < 3 := by omega
        generalize b.toInt.toNat = way at *
        generalize a.toInt.toNat = e at *
        generalize hRd : zwho (whoB F p (shf8 L e) (I 59 e).toInt.toNat way gn (I 25 2).toInt) (2 ^ gn) 0 (0, -2, 0) = R at hq
        rw [hI11]
        have key : ∀ (m T : Nat) J (S : Int × Int × Int32) (x5 x6 : Int32), T + m = 2 ^ gn → ag scC [] I J → x5.toInt = S.1 → 0 ≤ S.1 → S.1 ≤ T → x6.toInt = S.2.1 → zwho (whoB F p (shf8 L e) (I 59 e).toInt.toNat way gn (I 25 2).toInt) m T S = R → wX11_who_67 G l (d + 108) (fun v I' L' => ∃ r, v = some (.int r) ∧ Q r I' L') (m + 1) a b c x5 x6 S.2.2 (1 <<< (Int32.ofNat gn &&& 31)) (Int32.ofNat T) J L := by
          intro m
          induction m with
          | zero =>
            intro T J S x5 x6 hT2 ha h5 h50' h5T h6 hr
            have hr' : S = R := hr
            subst hr'
            unfold wX11_who_67
            rw [if_pos (by rw [zle, shl_g hgn7, zo (by omega)]; omega)]
            refine ife (fun q => ri (hq _ _ ?_ ha)) (fun q => ife (fun q2 => ri (hq _ _ ?_ ha)) (fun q2 => ri (hq _ _ ?_ ha)))
            · rw [zeq, z0] at q
              rw [if_pos q]; exact h5
            · rw [zeq, z0] at q
              rw [zeq, z1] at q2
              rw [if_neg q, if_pos q2]; exact h6
            · rw [zeq, z0] at q
              rw [zeq, z1] at q2
              rw [if_neg q, if_neg q2]
          | succ m ih =>
            intro T J S x5 x6 hT2 ha h5 h50' h5T h6 hr
            unfold zwho at hr
            unfold wX11_who_67
            rw [if_neg (by rw [zle, shl_g hgn7, zo (by omega)]; omega)]
            refine tX11_mayHaveGone (d := d + 101) hF hB ha hz (by omega) hgn (by omega) hae hbw hw3 (fun J' ha' => ?_)
            have s1 : (x5 + 1).toInt = S.1 + 1 := by rw [zadd (by rw [z1, h5]; omega) (by rw [z1, h5]; omega), z1, h5]
            rw [zsucc]
            refine ifz (fun q => ?_) (fun q => ?_)
            · rw [if_neg q] at hr
              exact ih (T + 1) J' S x5 x6 (by omega) ha' h5 h50' (by omega) h6 hr
            · rw [if_pos q] at hr
              unfold wX11_who_100
              refine ife (fun q2 => ?_) (fun q2 => ?_)
              · rw [if_pos q2]
                rw [zeq, z0, h5] at q2
                rw [if_pos q2, if_pos q2] at hr
                rw [zsucc]
                exact ih (T + 1) J' (S.1 + 1, (T : Int), Int32.ofNat T) (x5 + 1) (Int32.ofNat T) (by omega) ha' s1 (by simp only; omega) (by simp only; omega) (zo (by omega)) hr
              · rw [if_neg q2]
                rw [zeq, z0, h5] at q2
                rw [if_neg q2, if_neg q2] at hr
                rw [zsucc]
                exact ih (T + 1) J' (S.1 + 1, S.2.1, S.2.2 &&& Int32.ofNat T) (x5 + 1) x6 (by omega) ha' s1 (by simp only; omega) (by simp only; omega) h6 hr
        exact ⟨_, key (2 ^ gn) 0 I (0, -2, 0) 0 (-2) (by omega) ag.rf rfl (by simp) (by simp) rfl hRd⟩
      · rw [if_neg (bsV_n h50).1]
        exact ri (hq _ _ (bsV_z ok h50) ag.rf)
    · rw [zle, zl_2] at c4
      rw [shV_no (by omega)]; rfl
  · have e89 : I1 89 = I 89 := ha.c 89
    refine wX12_who_ok ?_
    unfold wX12_who
    by_cases c1 : 0 ≤ a.toInt ∧ a.toInt < 6
    case neg =>
      refine tX12_bytesNo c1 ?_
      rw [if_pos rfl]
      exact ri (hq _ _ (by rw [shV_no (fun q => c1 q.1)]; rfl) ag.rf)
    refine tX12_bytesIs c1 ?_
    have hm1 : ¬ bsV (I1 89 a.toInt.toNat).toInt 1 = -1 := by
      by_cases h50 : (I1 89 a.toInt.toNat).toInt = 50
      · rw [bsV_50 h50]; decide
      · exact (bsV_n h50).2.2
    rw [if_neg hm1]
    refine tX12_isWay (ifz (fun c2 => ri (hq _ _ (by rw [z64] at c2; rw [shV_no (fun q => c2 q.2.1)]; rfl) ag.rf)) (fun c2 => tX12_win (a := 0) (b := 2) (by decide) (by decide) (ifz (fun c3 => ri (hq _ _ (by rw [shV_no (fun q => c3 q.2.2)]; rfl) ag.rf)) (fun c3 => tX12_bytesIs c1 ?_))))
    rw [z64] at c2
    have ok : (0 ≤ a.toInt ∧ a.toInt < 6) ∧ (0 ≤ b.toInt ∧ b.toInt < 3) ∧ (0 ≤ c.toInt ∧ c.toInt ≤ 2) := ⟨c1, c2, c3⟩
    rw [e89]
    by_cases h50 : (I 89 a.toInt.toNat).toInt = 50
    · rw [bsV_50 h50, if_pos (by decide)]
      rw [shV_50 ok h50] at hq
      have hB := hS.byr hA.2.1.2 (by omega) h50
      have hae : a.toInt = (a.toInt.toNat : Nat) := by omega
      have hbw : b.toInt = (b.toInt.toNat : Nat) := by omega
      have hw3 : b.toInt.toNat < 3 := by omega
      have e6 : ∀ J, ag scM tcM I1 J → J 71 6 = Int32.ofNat gn := fun J haJ => by
        have : J 71 6 = I1 71 6 := haJ.m 6
        rw [this, ha.m 6, hP.1, hI11]
      rw [e6 I1 ag.rf]
      generalize b.toInt.toNat = way at *
      generalize a.toInt.toNat = e at *
      generalize hRd : zwho (whoB F p (shf8 L e) (I 59 e).toInt.toNat way gn (I 25 2).toInt) (2 ^ gn) 0 (0, -2, 0) = R at hq
      have key : ∀ (m T : Nat) J (S : Int × Int × Int32) (x5 x6 x7 : Int32), T + m = 2 ^ gn → ag scM tcM I1 J → x5.toInt = S.1 → 0 ≤ S.1 → S.1 ≤ T → x6.toInt = S.2.1 → (S.1 = 0 → x7 = 1 <<< (Int32.ofNat gn &&& 31) - 1 ∧ S.2.2 = 0) → (S.1 ≠ 0 → x7 = S.2.2) → zwho (whoB F p (shf8 L e) (I 59 e).toInt.toNat way gn (I 25 2).toInt) m T S = R → wX12_who_65 G l (d + 108) (fun v I' L' => ∃ r, v = some (.int r) ∧ Q r I' L') (m + 1) a b c x5 x6 x7 (Int32.ofNat T) J L := by
        intro m
        induction m with
        | zero =>
          intro T J S x5 x6 x7 hT2 haJ h5 h50' h5T h6 h70 h71 hr
          have hr' : S = R := hr
          subst hr'
          unfold wX12_who_65
          rw [e6 J haJ, if_pos (by rw [zle, shl_g hgn7, zo (by omega)]; omega)]
          refine ife (fun q => ri (hq _ _ ?_ haJ)) (fun q => ife (fun q2 => ri (hq _ _ ?_ haJ)) (fun q2 => ife (fun q3 => ri (hq _ _ ?_ haJ)) (fun q3 => ri (hq _ _ ?_ haJ))))
          · rw [zeq, z0] at q
            rw [if_pos q]; exact h5
          · rw [zeq, z0] at q
            rw [zeq, z1] at q2
            rw [if_neg q, if_pos q2]; exact h6
          · rw [zeq, z0] at q
            rw [zeq, z1] at q2
            rw [zeq, z0, h5] at q3
            rw [if_neg q, if_neg q2, (h70 q3).2]
          · rw [zeq, z0] at q
            rw [zeq, z1] at q2
            rw [zeq, z0, h5] at q3
            rw [if_neg q, if_neg q2, h71 q3]
        | succ m ih =>
          intro T J S x5 x6 x7 hT2 haJ h5 h50' h5T h6 h70 h71 hr
          unfold zwho at hr
          unfold wX12_who_65
          rw [e6 J haJ, if_neg (by rw [zle, shl_g hgn7, zo (by omega)]; omega)]
          refine tX12_leaves (d := d + 4) (k := k) h hF hB ha haJ hz (by omega) hgn (by omega) hae hbw hw3 (fun J' ha' => ?_)
          have s1 : (x5 + 1).toInt = S.1 + 1 := by rw [zadd (by rw [z1, h5]; omega) (by rw [z1, h5]; omega), z1, h5]
          rw [zsucc]
          refine ifz (fun q => ?_) (fun q => ?_)
          · rw [if_neg q] at hr
            exact ih (T + 1) J' S x5 x6 x7 (by omega) ha' h5 h50' (by omega) h6 h70 h71 hr
          · rw [if_pos q] at hr
            unfold wX12_who_99
            refine ife (fun q2 => ?_) (fun q2 => ?_)
            · rw [zeq, z0, h5] at q2
              rw [if_pos q2, if_pos q2] at hr
              rw [zsucc, (h70 q2).1, full_and hgn7 (by omega)]
              exact ih (T + 1) J' (S.1 + 1, (T : Int), Int32.ofNat T) (x5 + 1) (Int32.ofNat T) _ (by omega) ha' s1 (by simp only; omega) (by simp only; omega) (zo (by omega)) (fun z => by simp only at z; omega) (fun _ => rfl) hr
            · rw [zeq, z0, h5] at q2
              rw [if_neg q2, if_neg q2] at hr
              rw [zsucc, h71 q2]
              exact ih (T + 1) J' (S.1 + 1, S.2.1, S.2.2 &&& Int32.ofNat T) (x5 + 1) x6 _ (by omega) ha' s1 (by simp only; omega) (by simp only; omega) h6 (fun z => by simp only at z; omega) (fun _ => rfl) hr
      exact ⟨_, key (2 ^ gn) 0 I1 (0, -2, 0) 0 (-2) _ (by omega) ag.rf rfl (by simp) (by simp) rfl (fun _ => ⟨rfl, rfl⟩) (fun z => absurd rfl z) hRd⟩
    · have := (bsV_n (x := 1) h50).2.1
      rw [if_neg (by rw [zle, z0]; omega)]
      refine tX12_bytesIs c1 (ri ?_)
      rw [e89]
      exact hq _ _ (bsV_z ok h50) ag.rf
end W2

/-! law -/
def fE (a b c e g h : Int32) : lE := fun k => if k = 0 then a else if k = 1 then b else if k = 2 then c else if k = 3 then e else if k = 4 then g else h
theorem fE_k {f : Nat → Int32} {k : Nat} (hk : k < 6) : f k = fE (f 0) (f 1) (f 2) (f 3) (f 4) (f 5) k := by
  have : k = 0 ∨ k = 1 ∨ k = 2 ∨ k = 3 ∨ k = 4 ∨ k = 5 := by omega
  rcases this with rfl | rfl | rfl | rfl | rfl | rfl <;> rfl
/-- a text that was read -/
def PTX (tx : Nat → Int32) (n : Nat) : zP := pT tx n (pE tx n (pO tx n 6)) 121 0 []
section TL
variable {G : jG} {l : Launch} {d k : Nat} {I : jS} {L : jL} {K : Int32 → Int32 → jS → jL → Prop} {tx : Nat → Int32} {n : Nat}
theorem LW_new (hn : n ≤ 120) (htx : ∀ i, i < n → 0 ≤ (tx i).toInt ∧ (tx i).toInt ≤ 255) (hR : (PTX tx n).1 = true) {len tm : Int32} {code text : Nat → Int32} (hlen : len.toInt = ((PTX tx n).2.2.1.length : Nat)) (hcode : ∀ j, j < (PTX tx n).2.2.1.length → code j = (PTX tx n).2.2.1.getD j 0) (htm : tm.toInt = n) (htext : ∀ i, i < n → text i = tx i) :
    LW G l (some (fun a b c e g h => (PTX tx n).2.2.2 (fE a b c e g h))) len code tm text := by
  have hs : GD n (pE tx n (pO tx n 6)) := GD_E (GD_O htx 6)
  have hb := PT_b (tx := tx) hs 121 0 [] (by omega) (by simp)
  obtain ⟨⟨rest, e1, e2⟩, -⟩ := hb.1 hR
  have hl1 : 1 ≤ (PTX tx n).2.2.1.length := by
    show 1 ≤ (pT tx n (pE tx n (pO tx n 6)) 121 0 []).2.2.1.length
    rw [e1, List.length_append]
    omega
  refine ⟨by omega, by omega, fun d J L Q h9 h20 hq => ?_, fun d J L Q h12 h78 hq => ?_⟩
  · obtain ⟨m, hm⟩ := WT_T (G := G) (l := l) (d := d) (tx := tx) hs (WD_E (GD_O htx 6) (WD_O htx 6)) hn (fE (J 22 0) (J 22 1) (J 22 2) (J 22 3) (J 22 4) (J 22 5)) 121 0 [] (by omega) (by simp) hR
    refine wX6_work_ok ?_
    unfold wX6_work
    exact ⟨m, hm L _ J 0 (by rw [h9]; exact hlen) (fun k hk => fE_k hk) (fun j hj => by rw [h20]; exact hcode j hj) (by simp) (fun J' ha => ri (hq J' ha))⟩
  · refine tX12_workOut (D := d + 97) (E := fE (J 79 0) (J 79 1) (J 79 2) (J 79 3) (J 79 4) (J 79 5)) htm hn (Or.inr ⟨rfl, fun i hi => by rw [h78]; exact htext i hi⟩) hs (fun I' hS' h79 => R_X (d := d + 55) hS' htx (fun k hk => ?_)) (fun I' hS' => RD_E (d := d + 93) hS') (fun _ J' ha _ => hq J' ha) (fun q => ?_)
    · rw [h79 k]; exact fE_k hk
    · have hR' : (pT tx n (pE tx n (pO tx n 6)) 121 0 []).1 = true := hR
      rw [hR'] at q
      exact absurd q (by decide)
theorem T_law (h : Inv (LRl G l) k I L) (hk : ∀ r I' L', Inv (LRl G l) (k + 1) I' L' → K r r I' L') :
    cI G l mX11_law (d + 129) [.ref 0] I L (fun r I1 L1 => cI G l mX12_law (d + 129) [.ref 71] I1 L1 (fun r' I2 L2 => K r r' I2 L2)) := by
  obtain ⟨hP, hC, hI, hT, hR, hD, hG, hA, hS, hM⟩ := id h
  obtain ⟨t1, t2, t3⟩ := hT
  have hnn : (I 17 5).toInt = ((I 17 5).toInt.toNat : Nat) := by omega
  generalize (I 17 5).toInt.toNat = n at hnn
  have hn : n ≤ 120 := by omega
  have htx : ∀ i, i < n → 0 ≤ (I 18 i).toInt ∧ (I 18 i).toInt ≤ 255 := fun i hi => (t3 i (by omega)).2
  have hTx : Tx I (I 18) n := ⟨hnn, hn, fun _ _ => rfl, htx⟩
  have hs : GD n (pE (I 18) n (pO (I 18) n 6)) := GD_E (GD_O htx 6)
  have hbP : (PTX (I 18) n).2.1 ≤ n := (PT_b (tx := I 18) hs 121 0 [] (by omega) (by simp)).2
  refine two (P := fun r I1 L1 => L1 = L ∧ I1 17 5 = 0 ∧ (((PTX (I 18) n).1 = true ∧ r = 1 ∧ ag [17, 19, 20] [] I I1 ∧ (I1 17 9).toInt = ((PTX (I 18) n).2.2.1.length : Nat) ∧ ∀ j, j < (PTX (I 18) n).2.2.1.length → I1 20 j = (PTX (I 18) n).2.2.1.getD j 0) ∨ ((PTX (I 18) n).1 = false ∧ r.toInt = -100 - (PTX (I 18) n).2.1 ∧ ag [17, 19] [] I I1 ∧ I1 17 9 = I 17 9))) (fun Q hq => ?_) (fun r I1 L1 hp Q hq => ?_) hk
  · refine wX11_law_ok ?_
    unfold wX11_law
    refine tX6_read (D := d + 125) hTx hs (fun I' hT' => (C_X (d := d + 75) hT').1) (fun I' => D_E (D := d + 120) D_op) (fun q J' ha h5 h9 h20 => ?_) (fun q r J' hr ha h5 h9 => ?_)
    · rw [if_neg (by decide)]
      exact ri (hq _ _ _ ⟨rfl, h5, Or.inl ⟨q, rfl, ha, h9, h20⟩⟩)
    · have hr : r.toInt = ((PTX (I 18) n).2.1 : Nat) := hr
      rw [if_pos (by rw [zle, z0, hr]; omega)]
      refine ri (hq _ _ _ ⟨rfl, h5, Or.inr ⟨q, ?_, ha, h9⟩⟩)
      rw [zsub (by rw [zl_m100, hr]; omega) (by rw [zl_m100, hr]; omega), zl_m100, hr]
  · obtain ⟨rfl, h5, hp⟩ := hp
    have ha : ag [17, 19, 20] [] I I1 := by
      rcases hp with z | z
      · exact z.2.2.1
      · exact z.2.2.1.up rfl rfl
    have e10 : I1 71 10 = I 17 5 := by rw [ha.m 10]; exact t1
    have h77 : ∀ i, i < n → I1 77 i = I 18 i := fun i hi => by rw [ha.c 77]; exact (t3 i (by omega)).1
    refine wX12_law_ok ?_
    unfold wX12_law
    refine tX12_workOut (D := d + 125) (tx := I 18) (n := n) (E := fun k => I1 79 k) (by rw [e10]; exact hnn) hn (Or.inl ⟨rfl, h77⟩) hs (fun I' hS' h79 => R_X (d := d + 83) hS' htx (fun k _ => h79 k)) (fun I' hS' => RD_E (d := d + 121) hS') (fun q J ha2 h16 => ?_) (fun q v J ha2 h16 => ?_)
    · have q : (PTX (I 18) n).1 = true := q
      rcases hp with ⟨-, rfl, -, h9, h20⟩ | ⟨z, -⟩
      case inr => rw [q] at z; exact absurd z (by decide)
      rw [if_pos (by rw [h16]; decide)]
      have e10' : J 71 10 = I 17 5 := by rw [ha2.m 10]; exact e10
      rw [e10']
      -- the tape becomes the text
      have e77 : (u2 J 71 10 0) 77 = J 77 := u2_ne 77 (by decide)
      have key : ∀ m c, c + m = n → wX12_law_37 G l (d + 128) (fun v I' L' => ∃ r, v = some (.int r) ∧ Q r I' L') (m + 1) (I 17 5) (Int32.ofNat c) (cpk (u2 J 71 10 0) 78 77 c) L1 := by
        intro m
        induction m with
        | zero =>
          intro c hc
          have : c = n := by omega
          subst this
          unfold wX12_law_37
          rw [if_pos (by rw [zle, hnn, zo (by omega)]; omega)]
          refine ri (hq _ _ ?_)
          generalize hJ2 : u2 (cpk (u2 J 71 10 0) 78 77 c) 71 12 (I 17 5) = J2
          have haJ : ag [78] [10, 12] J J2 := by rw [← hJ2]; exact agm (agc (agm ag.rf (by decide)) (by decide) (by decide)) (by decide)
          have hall : ag [17, 19, 20, 78] [10, 12, 13, 14, 15, 16, 17] I J2 := ag.th (ag.th (S := [17, 19, 20]) (T := [13, 14, 15, 16, 17]) ha ha2) haJ
          have f12 : J2 71 12 = I 17 5 := by rw [← hJ2, u2e]
          have f10 : J2 71 10 = 0 := by rw [← hJ2, u2i (by decide), cpk_ne (by decide), u2e]
          have f17 : J2 17 = I1 17 := by rw [haJ.c 17, ha2.c 17]
          have f20 : J2 20 = I1 20 := by rw [haJ.c 20, ha2.c 20]
          have f78 : ∀ i, i < c → J2 78 i = I 18 i := fun i hi => by rw [← hJ2, u2n (by decide), cpk_eq hi, e77, ha2.c 77]; exact h77 i hi
          refine ⟨hP.ag hall rfl, hC.ag hall rfl (by rw [hall.c 1]; omega), hI.ag hall rfl (by omega), ?_, ⟨_, LW_new hn htx q (by rw [f17]; exact h9) (fun j hj => by rw [f20]; exact h20 j hj) (by rw [f12]; exact hnn) f78⟩, hD.ag hall rfl, hG.ag hall rfl (by omega), hA.ag hall rfl, hS.ag hall rfl, hM.ag hall rfl rfl⟩
          refine ⟨by rw [f10, f17, h5], by rw [f17, h5]; decide, fun j hj => ?_⟩
          rw [f17, h5, z0] at hj
          omega
        | succ m ih =>
          intro c hc
          unfold wX12_law_37
          rw [if_neg (by rw [zle, hnn, zo (by omega)]; omega)]
          refine ⟨by rw [zin, zo (by omega)]; omega, ?_⟩
          rw [zon (by omega), zsucc, cpk_src (by decide), cpk_succ (by decide)]
          exact ih (c + 1) (by omega)
      have := key n 0 (by omega)
      rw [cpk_zero] at this
      exact ⟨_, this⟩
    · have q : (PTX (I 18) n).1 = false := q
      have h16 : (J 71 16).toInt = ((PTX (I 18) n).2.1 : Nat) := h16
      rcases hp with ⟨z, -⟩ | ⟨-, hr, ha', h9⟩
      · rw [q] at z; exact absurd z (by decide)
      rw [if_neg (by rw [zlt, z0, h16]; omega)]
      have er : (-100 : Int32) - J 71 16 = r := by
        rw [zeq, hr, zsub (by rw [zl_m100, h16]; omega) (by rw [zl_m100, h16]; omega), zl_m100, h16]
      rw [er]
      refine ri (hq _ _ ?_)
      have haJ : ag [] [10] J (u2 J 71 10 0) := agm ag.rf (by decide)
      have f10 : (u2 J 71 10 0) 71 10 = 0 := u2e
      have f17 : (u2 J 71 10 0) 17 = I1 17 := by rw [haJ.c 17, ha2.c 17]
      have hall : ag [17, 19] [10, 13, 14, 15, 16, 17] I (u2 J 71 10 0) := ag.th (ag.th (S := [17, 19]) (T := [13, 14, 15, 16, 17]) ha' ha2) haJ
      generalize u2 J 71 10 0 = J2 at *
      refine ⟨hP.ag hall rfl, hC.ag hall rfl (by rw [hall.c 1]; omega), hI.ag hall rfl (by omega), ?_, ?_, hD.ag hall rfl, hG.ag hall rfl (by omega), hA.ag hall rfl, hS.ag hall rfl, hM.ag hall rfl rfl⟩
      · refine ⟨by rw [f10, f17, h5], by rw [f17, h5]; decide, fun j hj => ?_⟩
        rw [f17, h5, z0] at hj
        omega
      · rw [f17, h9, hall.c 20, hall.m 12, hall.c 78]
        exact hR
end TL

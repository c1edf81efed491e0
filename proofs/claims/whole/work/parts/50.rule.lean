/-! goers by a rule -/
def rk (p : Nat → Nat → Int) (r n : Nat) : Int := if r = 0 then p 4 n else if r = 1 then -(p 4 n) else if r = 2 then p 6 n - p 4 n else 0
def ltK (f : Nat → Int) (x y : Nat) : Prop := f x < f y ∨ (f x = f y ∧ x < y)
/-- an order of all, by a rank and then by number -/
def SO (f : Nat → Int) (o : Nat → Nat) (m : Nat) : Prop := (∀ i, i < m → o i < m) ∧ (∀ x, x < m → ∃ i, i < m ∧ o i = x) ∧ ∀ i j, i < j → j < m → ltK f (o i) (o j)
def insO (o : Nat → Nat) (i m : Nat) : Nat → Nat := fun t => if t < i then o t else if t = i then m else o (t - 1)
theorem SO_ins {f : Nat → Int} {o : Nat → Nat} {m i : Nat} (h : SO f o m) (hi : i ≤ m) (h1 : ∀ j, i ≤ j → j < m → f m < f (o j)) (h2 : i = 0 ∨ f (o (i - 1)) ≤ f m) : SO f (insO o i m) (m + 1) := by
  obtain ⟨a, b, c⟩ := h
  have v1 : ∀ t, t < i → insO o i m t = o t := fun t ht => by unfold insO; rw [if_pos ht]
  have v2 : insO o i m i = m := by unfold insO; rw [if_neg (by omega), if_pos rfl]
  have v3 : ∀ t, i < t → insO o i m t = o (t - 1) := fun t ht => by unfold insO; rw [if_neg (by omega), if_neg (by omega)]
  have low : ∀ s, s < i → ltK f (o s) m := fun s hs => by
    have hm : o s < m := a s (by omega)
    unfold ltK
    rcases h2 with z | z
    · omega
    · by_cases e : s = i - 1
      · rw [e] at hm ⊢; omega
      · have := c s (i - 1) (by omega) (by omega)
        unfold ltK at this
        omega
  refine ⟨fun t ht => ?_, fun x hx => ?_, fun s t hst ht => ?_⟩
  · by_cases q : t < i
    · rw [v1 t q]; have := a t (by omega); omega
    · by_cases q2 : t = i
      · rw [q2, v2]; omega
      · rw [v3 t (by omega)]; have := a (t - 1) (by omega); omega
  · by_cases q : x = m
    · exact ⟨i, by omega, by rw [v2, q]⟩
    · obtain ⟨t, ht, e⟩ := b x (by omega)
      by_cases q2 : t < i
      · exact ⟨t, by omega, by rw [v1 t q2, e]⟩
      · exact ⟨t + 1, by omega, by rw [v3 (t + 1) (by omega), Nat.add_sub_cancel, e]⟩
  · by_cases q : t < i
    · rw [v1 t q, v1 s (by omega)]; exact c s t hst (by omega)
    · by_cases q2 : t = i
      · subst q2
        rw [v2, v1 s hst]
        exact low s hst
      · rw [v3 t (by omega)]
        by_cases q3 : s < i
        · rw [v1 s q3]; exact c s (t - 1) (by omega) (by omega)
        · by_cases q4 : s = i
          · subst q4
            rw [v2]
            exact Or.inl (h1 (t - 1) (by omega) (by omega))
          · rw [v3 s (by omega)]; exact c (s - 1) (t - 1) (by omega) (by omega)
theorem SO_pos {f : Nat → Int} {o : Nat → Nat} {m : Nat} : ∀ q i, q + i = m → (∀ j, m - q ≤ j → j < m → f m < f (o j)) → ∃ i, i ≤ m ∧ (∀ j, i ≤ j → j < m → f m < f (o j)) ∧ (i = 0 ∨ f (o (i - 1)) ≤ f m) := by
  intro q i
  induction i generalizing q with
  | zero => intro hq h; exact ⟨0, by omega, fun j h1 h2 => h j (by omega) h2, Or.inl rfl⟩
  | succ i ih =>
    intro hq h
    by_cases hc : f (o i) ≤ f m
    · exact ⟨i + 1, by omega, fun j h1 h2 => h j (by omega) h2, Or.inr (by rw [Nat.add_sub_cancel]; exact hc)⟩
    · refine ih (q + 1) (by omega) (fun j h1 h2 => ?_)
      by_cases e : j = i
      · rw [e]; omega
      · exact h j (by omega) h2
theorem SO_ex (f : Nat → Int) (m : Nat) : ∃ o, SO f o m := by
  induction m with
  | zero => exact ⟨fun _ => 0, fun i hi => by omega, fun x hx => by omega, fun i j _ hj => by omega⟩
  | succ m ih =>
    obtain ⟨o, h⟩ := ih
    obtain ⟨i, h1, h2, h3⟩ := SO_pos (f := f) (o := o) (m := m) 0 m (by omega) (fun j h1 h2 => by omega)
    exact ⟨_, SO_ins h h1 h2 h3⟩
theorem SO_one {f : Nat → Int} {o o' : Nat → Nat} {m : Nat} (h : SO f o m) (h' : SO f o' m) : ∀ i, i < m → o i = o' i := by
  intro i
  induction i using Nat.strongRecOn with
  | ind i ih =>
    intro hi
    obtain ⟨t, ht, et⟩ := h'.2.1 (o i) (h.1 i hi)
    obtain ⟨s, hs, es⟩ := h.2.1 (o' i) (h'.1 i hi)
    have nlt : ∀ x, ¬ ltK f x x := fun x q => by unfold ltK at q; omega
    by_cases t1 : t < i
    · have e := ih t t1 (by omega)
      have := h.2.2 t i t1 hi
      rw [e, et] at this
      exact absurd this (nlt _)
    · by_cases s1 : s < i
      · have e := ih s s1 (by omega)
        have := h'.2.2 s i s1 hi
        rw [← e, es] at this
        exact absurd this (nlt _)
      · by_cases t2 : t = i
        · rw [← et, t2]
        · by_cases s2 : s = i
          · rw [← es, s2]
          · have a := h'.2.2 i t (by omega) ht
            have b := h.2.2 i s (by omega) hs
            rw [et] at a
            rw [es] at b
            unfold ltK at a b
            omega
section RU
variable {G : jG} {l : Launch} {d k : Nat} {F : Option lF} {g : Int} {p : Nat → Nat → Int} {I : jS} {L : jL} {st wk : Nat → Int} {mn : Int} {Q : Int32 → jS → jL → Prop} {Qv : jS → jL → Prop} {K : Int32 → Int32 → jS → jL → Prop}
theorem rk_b (hF : Fr G l F g p I) {n r : Nat} (hn : (n : Int) < g) : -100 ≤ rk p r n ∧ rk p r n ≤ 100 := by
  have b4 := pok_4 (hF.go hn (w := 4) (by decide)).2.2
  have b6 := pok_6 (hF.go hn (w := 6) (by decide)).2.2
  unfold rk
  by_cases h0 : r = 0
  · rw [if_pos h0]; omega
  · rw [if_neg h0]
    by_cases h1 : r = 1
    · rw [if_pos h1]; omega
    · rw [if_neg h1]
      by_cases h2 : r = 2
      · rw [if_pos h2]; omega
      · rw [if_neg h2]; omega
theorem tX10_rank {x y : Int32} {n r : Nat} (hF : Fr G l F g p I) (hx : x.toInt = n) (hn : (n : Int) < g) (hy : y.toInt = r) (h : ∀ v : Int32, v.toInt = rk p r n → Q v I L) : cI G l mX10_rank (d + 2) [.ref 31, .int x, .int y] I L Q := by
  have hg := hF.1
  obtain ⟨a4, -, b4⟩ := hF.go hn (w := 4) (by decide)
  obtain ⟨a6, -, b6⟩ := hF.go hn (w := 6) (by decide)
  have b4 := pok_4 b4
  have b6 := pok_6 b6
  unfold rk at h
  refine wX10_rank_ok ?_
  unfold wX10_rank
  refine tX7_get' hx (b := 4) (v := p 4 n) (by decide) (by omega) (by decide) a4 (fun r1 h1 => ife (fun q => ri (h _ ?_)) (fun q => ife (fun q2 => ri (h _ ?_)) (fun q2 => ife (fun q3 => ?_) (fun q3 => ri (h _ ?_)))))
  · rw [zeq, z0, hy] at q
    rw [if_pos (by omega)]; exact h1
  · rw [zeq, z0, hy] at q
    rw [zeq, z1, hy] at q2
    rw [if_neg (by omega), if_pos (by omega), zneg (by rw [h1]; omega), h1]
  · rw [zeq, z0, hy] at q
    rw [zeq, z1, hy] at q2
    rw [zeq, zl_2, hy] at q3
    refine tX7_get' hx (b := 6) (v := p 6 n) (by decide) (by omega) (by decide) a6 (fun r2 h2 => ri (h _ ?_))
    rw [if_neg (by omega), if_neg (by omega), if_pos (by omega), zsub (by rw [h1, h2]; omega) (by rw [h1, h2]; omega), h1, h2]
  · rw [zeq, z0, hy] at q
    rw [zeq, z1, hy] at q2
    rw [zeq, zl_2, hy] at q3
    rw [if_neg (by omega), if_neg (by omega), if_neg (by omega)]; rfl
theorem tX12_rankOf {x y : Int32} {n r : Nat} (hF : Fr G l F g p I) (hx : x.toInt = n) (hn : (n : Int) < g) (hy : y.toInt = r) (h : ∀ v : Int32, v.toInt = rk p r n → Q v I L) : cI G l mX12_rankOf (d + 2) [.ref 71, .int x, .int y] I L Q := by
  have hg := hF.1
  have b4 := pok_4 (hF.go hn (w := 4) (by decide)).2.2
  have b6 := pok_6 (hF.go hn (w := 6) (by decide)).2.2
  unfold rk at h
  refine wX12_rankOf_ok ?_
  unfold wX12_rankOf
  refine ife (fun q => ?_) (fun q => ife (fun q2 => ?_) (fun q2 => ife (fun q3 => ?_) (fun q3 => ri (h _ ?_))))
  · rw [zeq, z0, hy] at q
    rw [if_pos (by omega)] at h
    exact tX12_ofGoer hF hx hn (w := 0) (by decide) (by decide) (fun r1 h1 => ri (h _ h1))
  · rw [zeq, z0, hy] at q
    rw [zeq, z1, hy] at q2
    rw [if_neg (by omega), if_pos (by omega)] at h
    refine tX12_ofGoer hF hx hn (w := 0) (by decide) (by decide) (fun r1 h1 => ri (h _ ?_))
    have h1 : r1.toInt = p 4 n := h1
    rw [zneg (by rw [h1]; omega), h1]
  · rw [zeq, z0, hy] at q
    rw [zeq, z1, hy] at q2
    rw [zeq, zl_2, hy] at q3
    rw [if_neg (by omega), if_neg (by omega), if_pos (by omega)] at h
    refine tX12_ofGoer hF hx hn (w := 2) (by decide) (by decide) (fun r1 h1 => tX12_ofGoer hF hx hn (w := 0) (by decide) (by decide) (fun r2 h2 => ri (h _ ?_)))
    have h1 : r1.toInt = p 6 n := h1
    have h2 : r2.toInt = p 4 n := h2
    rw [zsub (by rw [h1, h2]; omega) (by rw [h1, h2]; omega), h1, h2]
  · rw [zeq, z0, hy] at q
    rw [zeq, z1, hy] at q2
    rw [zeq, zl_2, hy] at q3
    rw [if_neg (by omega), if_neg (by omega), if_neg (by omega)]; rfl
theorem tX10_byRule {y : Int32} {r gn : Nat} (hF : Fr G l F g p I) (hgn : g = gn) (hy : y.toInt = r) (h : ∀ I' o, ag [31, 35] [] I I' → Od I' o gn → SO (rk p r) o gn → Qv I' L) : cV G l mX10_byRule (d + 3) [.ref 31, .int y] I L Qv := by
  have hg := hF.1
  refine wX10_byRule_ok (Q := fun v I' L' => v = none ∧ Qv I' L') ?_
  unfold wX10_byRule
  have key : ∀ (q m : Nat) J o, m + q = gn → ag [31, 35] [] I J → Od J o m → SO (rk p r) o m → wX10_byRule_7 G l (d + 2) (fun v I' L' => v = none ∧ Qv I' L') (q + 1) y (Int32.ofNat m) J L := by
    intro q
    induction q with
    | zero =>
      intro m J o hm ha hO hS
      have : m = gn := by omega
      subst this
      have hFJ := hF.ag ha rfl
      unfold wX10_byRule_7
      rw [if_pos (by rw [zle, hFJ.2.1, zo (by omega)]; omega)]
      exact ⟨rfl, h J o ha hO hS⟩
    | succ q ih =>
      intro m J o hm ha hO hS
      have hFJ := hF.ag ha rfl
      unfold wX10_byRule_7
      rw [if_neg (by rw [zle, hFJ.2.1, zo (by omega)]; omega)]
      have hO' : Od J (insO o m m) m := hO.cg (fun i hi => by unfold insO; rw [if_pos hi])
      refine tX10_add hO' (by omega) (by rw [zo (by omega)]; unfold insO; rw [if_neg (by omega), if_pos rfl]) (fun J1 ha1 hO1 => ?_)
      have hb1 : ag [31, 35] [] I J1 := ha.th ha1
      -- the newcomer goes forward
      have inner : ∀ (i : Nat) M, i ≤ m → ag [31, 35] [] I M → Od M (insO o i m) (m + 1) → (∀ j, i ≤ j → j < m → rk p r m < rk p r (o j)) → wX10_byRule_30 G l (d + 2) (fun z0 z1 I L => wX10_byRule_7 G l (d + 2) (fun v I' L' => v = none ∧ Qv I' L') (q + 1) z0 z1 I L) (fun v I' L' => v = none ∧ Qv I' L') (i + 1) y (Int32.ofNat m) (Int32.ofNat i) M L := by
        intro i
        induction i with
        | zero =>
          intro M hi haM hOM hgt
          unfold wX10_byRule_30
          rw [if_pos (by decide), zsucc]
          exact ih (m + 1) M _ (by omega) haM hOM (SO_ins hS (by omega) hgt (Or.inl rfl))
        | succ i ihi =>
          intro M hi haM hOM hgt
          have hFM := hF.ag haM rfl
          have em : Int32.ofNat (i + 1) - 1 = Int32.ofNat i := zof (by rw [zsub (by rw [zo (by omega), z1]; omega) (by rw [zo (by omega), z1]; omega), zo (by omega), z1]; omega)
          have em2 : Int32.ofNat (i + 1) + -1 = Int32.ofNat i := zof (by rw [zadd (by rw [zo (by omega), zl_m1]; omega) (by rw [zo (by omega), zl_m1]; omega), zo (by omega), zl_m1]; omega)
          have hoi : o i < m := hS.1 i (by omega)
          have hv : insO o (i + 1) m i = o i := by unfold insO; rw [if_pos (by omega)]
          unfold wX10_byRule_30
          rw [if_neg (by rw [zle, z0, zo (by omega)]; omega), em, em2]
          refine tX10_goerAt hOM (zo (k := i) (by omega)) (by omega) (fun r1 h1 => ?_)
          rw [hv] at h1
          refine tX10_rank hFM h1 (by omega) hy (fun r2 h2 => tX10_rank hFM (zo (k := m) (by omega)) (by omega) hy (fun r3 h3 => ife (fun c => ?_) (fun c => ⟨by rw [zin, zo (by omega)]; omega, by rw [zin, zo (by omega)]; omega, ?_⟩)))
          · rw [zle, h2, h3] at c
            rw [zsucc]
            exact ih (m + 1) M _ (by omega) haM hOM (SO_ins hS hi hgt (Or.inr (by rw [Nat.add_sub_cancel]; exact c)))
          · rw [zle, h2, h3] at c
            rw [zon (by omega), zon (by omega)]
            refine ihi _ (by omega) (agu (agu haM (by simp) (by decide)) (by simp) (by decide)) ⟨?_, hOM.2.1, fun t ht => ?_⟩ (fun j h1 h2 => ?_)
            · rw [u2n (by decide), u2n (by decide)]; exact hOM.1
            · rw [u2_ap]
              by_cases t1 : t = i
              · rw [if_pos ⟨rfl, t1⟩, zo (by omega), t1]
                unfold insO
                rw [if_neg (by omega), if_pos rfl]
              · rw [if_neg (fun z => t1 z.2), u2_ap]
                by_cases t2 : t = i + 1
                · rw [if_pos ⟨rfl, t2⟩, hOM.2.2 i (by omega), hv, t2]
                  unfold insO
                  rw [if_neg (by omega), if_neg (by omega), Nat.add_sub_cancel]
                · rw [if_neg (fun z => t2 z.2), hOM.2.2 t ht]
                  unfold insO
                  by_cases t3 : t < i
                  · rw [if_pos (by omega), if_pos t3]
                  · rw [if_neg (by omega), if_neg (by omega), if_neg (by omega), if_neg (by omega)]
            · by_cases e : j = i
              · rw [e]; omega
              · exact hgt j (by omega) h2
      have em : J1 31 5 - 1 = Int32.ofNat m := zof (by rw [zsub (by rw [hO1.1, z1]; omega) (by rw [hO1.1, z1]; omega), hO1.1, z1]; omega)
      rw [em]
      exact ⟨_, inner m J1 (by omega) hb1 hO1 (fun j h1 h2 => by omega)⟩
  exact ⟨_, key gn 0 _ (fun _ => 0) (by omega) (agu ag.rf (by simp) (by decide)) ⟨by rw [u2e]; rfl, by omega, fun i hi => by omega⟩ ⟨fun i hi => by omega, fun x hx => by omega, fun i j _ hj => by omega⟩⟩
end RU

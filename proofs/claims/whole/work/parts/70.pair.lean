/-! PAIRS: together, owe, strike -/
theorem ctX10_needSet {d : Nat} {x : Int} {N : Tn} (hd : 1 ≤ d) (h5 : N 2 ≤ 5) {σ : Sg} (hR : RowT σ 7 N) (h : 0 ≤ x ∧ x < ((2 ^ N 2 : Nat) : Int)) : Ct d MX10_needSet [rV 19 0, iV x] σ (.inl []) σ := by
  refine (eX10_needSet (d := 0) ?_).mono hd
  intro X Xr Xt hC hr
  refine bX10_needSet_0 hC ?_
  rw [if_neg (by omega), hR.1 2 (by omega), ishl_1 (by omega), if_pos h.2]
  exact hr
theorem ctX10_needSet_no {d : Nat} {x : Int} {N : Tn} (hd : 1 ≤ d) (h5 : N 2 ≤ 5) {σ : Sg} (hR : RowT σ 7 N) (h : ¬ (0 ≤ x ∧ x < ((2 ^ N 2 : Nat) : Int))) : Ct d MX10_needSet [rV 19 0, iV x] σ (.inr 2) σ := by
  refine (eX10_needSet (d := 0) ?_).mono hd
  intro X Xr Xt hC hr
  refine bX10_needSet_0 hC ?_
  by_cases a : x < 0
  · rw [if_pos a]; exact hr
  · rw [if_neg a, hR.1 2 (by omega), ishl_1 (by omega), if_neg (fun q => h ⟨by omega, q⟩)]; exact hr
def sbI (k s : Nat) : Prop := iandI (k : Int) (ixorI (s : Int) (-1)) = 0
def tgN (N : Tn) (a : Nat → Nat) (s : Nat) : Nat → Int
  | 0 => -1
  | k + 1 => if iandI (k : Int) (ixorI (s : Int) (-1)) = 0 then (if tgN N a s k = -1 then (if haB N a k = true then (k : Int) else tgN N a s k) else if popc k < popc (tgN N a s k).toNat then (if haB N a k = true then (k : Int) else tgN N a s k) else tgN N a s k) else tgN N a s k
theorem tgN_s (N : Tn) (a : Nat → Nat) (s k : Nat) : tgN N a s (k + 1) = if iandI (k : Int) (ixorI (s : Int) (-1)) = 0 then (if tgN N a s k = -1 then (if haB N a k = true then (k : Int) else tgN N a s k) else if popc k < popc (tgN N a s k).toNat then (if haB N a k = true then (k : Int) else tgN N a s k) else tgN N a s k) else tgN N a s k := rfl
theorem tgN_rng (N : Tn) (a : Nat → Nat) (s : Nat) : ∀ k, tgN N a s k = -1 ∨ (0 ≤ tgN N a s k ∧ tgN N a s k < k) := by
  intro k
  induction k with
  | zero => exact Or.inl rfl
  | succ k ih =>
    rw [tgN_s]
    have h1 : ((k : Int) = -1 ∨ (0 ≤ (k : Int) ∧ (k : Int) < ((k + 1 : Nat) : Int))) := Or.inr ⟨by omega, by omega⟩
    have h2 : tgN N a s k = -1 ∨ (0 ≤ tgN N a s k ∧ tgN N a s k < ((k + 1 : Nat) : Int)) := by omega
    split
    · split
      · split
        · exact h1
        · exact h2
      · split
        · split
          · exact h1
          · exact h2
        · exact h2
    · exact h2
theorem p2_32 {n : Nat} (h : n ≤ 5) : 2 ^ n ≤ 32 := Nat.pow_le_pow_right (by decide) h
theorem jt_together {ω : Nat → Int} {σ : Sg} (hI : Inv ω σ) (x y w : Int) (hy : in64 y) : Jt ω MX10_together MX11_together [iV x, lV y, iV w] iV cdI σ := by
  obtain ⟨N, hQ⟩ := hI.1
  have hW := hQ.2.2
  have h5 := hW.1.2.1
  have h8 := hW.1.1
  have p32 := p2_32 h5
  have hwi : ishlI 1 (N 2 : Int) = ((2 ^ N 2 : Nat) : Int) := ishl_1 (by omega)
  have hwe : w32 (ishlI 1 (N 2 : Int) - 1) = ((2 ^ N 2 : Nat) : Int) - 1 := by rw [hwi]; generalize 2 ^ N 2 = zz at p32; unfold w32; omega
  by_cases h : 0 ≤ x ∧ x < ((2 ^ N 2 : Nat) : Int)
  · obtain ⟨σ1, c1, c2, c3⟩ := ctX8_takeApart (d := 6) (t := 7) (by decide) hW hy hQ.1 (by decide)
    have hR1 : RowT σ1 7 N := RowT_fr hQ.1 (fun i hi => c2 _ (by omega))
    have hnp : PQ N y = true → Ct 7 MX10_needPrice [rV 19 0, lV y] σ (.inl []) σ1 := by
      intro e
      refine (eX10_needPrice (d := 6) ?_).mono (by decide)
      intro X Xr Xt hC hr
      refine bX10_needPrice_0 hC ?_
      refine ⟨_, _, c1, ?_⟩
      rw [e, if_neg (by decide)]
      exact hr
    have hnn : PQ N y = false → Ct 7 MX10_needPrice [rV 19 0, lV y] σ (.inr 2) σ1 := by
      intro e
      refine (eX10_needPrice (d := 6) ?_).mono (by decide)
      intro X Xr Xt hC hr
      refine bX10_needPrice_0 hC ?_
      refine ⟨_, _, c1, ?_⟩
      rw [e, if_pos (by decide)]
      exact hr
    by_cases g : 0 ≤ w ∧ w ≤ 1
    · cases e1 : PQ N y with
      | false =>
        refine Or.inr ⟨2, σ1, by decide, ?_, ?_⟩
        · refine (eX10_together (d := 7) ?_).mono (by decide)
          intro X Xr Xt hC hr
          refine bX10_together_0 hC ?_
          exact Or.inl ⟨ctX10_needSet (by decide) h5 hQ.1 h, Or.inr ⟨_, _, hnn e1, hr⟩⟩
        · intro τ ha
          have hM0 := RowM_c hQ.2.1 (c53 c2) ha
          obtain ⟨σ2, r1, r2, r3⟩ := ctX11_laysPrice (d := 7) (by decide) hW hy hM0
          refine ⟨0, upS σ2 66 5 1, ?_, ups_eq, Inv_c hI hQ (c53 c2) (fun i hi => c2 _ (by omega)) ha (th_r (r73 r2)) (RowM_ups (RowM_r hM0 (r2 67 (by decide))) (by decide))⟩
          refine (eX11_together (d := 7) ?_).mono (by decide)
          intro X Xr Xt hC hr
          refine bX11_together_0 hC ?_
          refine ⟨_, ctX11_people (by decide) hM0, ?_⟩
          rw [hwe]
          refine ⟨_, ctX11_wi (by decide) (by omega), ?_⟩
          rw [if_neg (by decide)]
          refine ⟨_, ctX11_wi (by decide) g, ?_⟩
          rw [if_neg (by decide)]
          refine ⟨_, _, r1, ?_⟩
          rw [e1, if_pos (by decide), ups_eq, if_pos (by decide)]
          exact hr
      | true =>
        obtain ⟨s, hs⟩ := z_nat h.1
        subst hs
        have hs32 : s < 32 := by omega
        have c3 := c3 (PQ_1 e1)
        obtain ⟨a, hA⟩ : ∃ a, a = aN N y.toNat := ⟨_, rfl⟩
        rw [← hA] at c3
        have haz : ∀ j, N 1 ≤ j → a j = 0 := fun j hj => by rw [hA]; exact aN_z hj
        obtain ⟨V, hV⟩ : ∃ V : Int, V = if tgN N a s (s + 1) = -1 then -1 else if w = 1 then tgN N a s (s + 1) else (popc (tgN N a s (s + 1)).toNat : Int) := ⟨_, rfl⟩
        refine Or.inl ⟨V, σ1, ?_, ?_⟩
        · refine (eX10_together (d := 7) ?_).mono (by decide)
          intro X Xr Xt hC hr
          refine bX10_together_0 hC ?_
          refine Or.inl ⟨ctX10_needSet (by decide) h5 hQ.1 h, Or.inl ⟨_, hnp e1, Or.inl ⟨ctX10_needWhat (by decide) g, ?_⟩⟩⟩
          have key : ∀ k, k ≤ s + 1 → ∀ b : Int, b = tgN N a s k → X 23 [rV 19 0, iV (s : Int), lV y, uV, iV w, iV b, iV (k : Int), uV] [] σ1 := by
            refine loop_up (P := fun k => ∀ b : Int, b = tgN N a s k → X 23 [rV 19 0, iV (s : Int), lV y, uV, iV w, iV b, iV (k : Int), uV] [] σ1) ?_ ?_
            · intro b hb
              have hrg := tgN_rng N a s (s + 1)
              rw [← hb] at hV hrg
              refine bX10_together_23 hC ?_
              rw [if_pos (by omega)]
              by_cases q : b = -1
              · rw [if_pos q] at hV ⊢
                rw [hV, ← q] at hr; exact hr
              rw [if_neg q] at hV ⊢
              by_cases q2 : w = 1
              · rw [if_pos q2] at hV ⊢
                rw [hV] at hr; exact hr
              rw [if_neg q2] at hV ⊢
              obtain ⟨bn, hbn⟩ := z_nat (show 0 ≤ b by omega)
              subst hbn
              rw [Int.toNat_natCast] at hV
              rw [hV] at hr
              exact ⟨_, ctJ6_bitCount (by decide) (by omega), hr⟩
            · intro k hk ih b hb
              have hrg := tgN_rng N a s k
              rw [← hb] at hrg
              have ih := fun y hy => ih y (show y = _ by rw [tgN_s]; exact hy)
              rw [← hb] at ih
              refine bX10_together_23 hC ?_
              rw [if_neg (by omega), w32_s (by omega)]
              by_cases q : b = -1
              · rw [if_pos q]
                by_cases q1 : iandI (k : Int) (ixorI (s : Int) (-1)) = 0
                · rw [if_pos q1, if_pos q] at ih
                  rw [if_pos q1]
                  refine ⟨_, ctX8_allHold (by decide) hW (by omega) hR1 c3 haz, ?_⟩
                  by_cases q2 : haB N a k = true
                  · rw [if_pos q2] at ih
                    rw [q2, if_neg (by decide)]
                    exact ih _ rfl
                  · rw [if_neg q2] at ih
                    rw [Bool.eq_false_iff.mpr q2, if_pos (by decide)]
                    exact ih _ rfl
                · rw [if_neg q1] at ih ⊢
                  exact ih _ rfl
              · rw [if_neg q]
                obtain ⟨bn, hbn⟩ := z_nat (show 0 ≤ b by omega)
                subst hbn
                refine ⟨_, ctJ6_bitCount (by decide) (by omega), _, ctJ6_bitCount (by decide) (by omega), ?_⟩
                rw [Int.toNat_natCast] at ih
                by_cases q1 : iandI (k : Int) (ixorI (s : Int) (-1)) = 0
                · rw [if_pos q1, if_neg q] at ih
                  by_cases q3 : popc k < popc bn
                  · rw [if_pos q3] at ih
                    rw [if_pos (Int.ofNat_lt.mpr q3), if_pos q1]
                    refine ⟨_, ctX8_allHold (by decide) hW (by omega) hR1 c3 haz, ?_⟩
                    by_cases q2 : haB N a k = true
                    · rw [if_pos q2] at ih
                      rw [q2, if_neg (by decide)]
                      exact ih _ rfl
                    · rw [if_neg q2] at ih
                      rw [Bool.eq_false_iff.mpr q2, if_pos (by decide)]
                      exact ih _ rfl
                  · rw [if_neg q3] at ih
                    rw [if_neg (fun z => q3 (Int.ofNat_lt.mp z)), if_pos q1]
                    exact ih _ rfl
                · rw [if_neg q1] at ih
                  rw [if_neg q1, if_neg q1]
                  split
                  · exact ih _ rfl
                  · exact ih _ rfl
          exact key 0 (Nat.zero_le _) (-1) rfl
        · intro τ ha
          have hM0 := RowM_c hQ.2.1 (c53 c2) ha
          obtain ⟨σ2, r1, r2, r3⟩ := ctX11_laysPrice (d := 7) (by decide) hW hy hM0
          have hM2 : RowM (upS σ2 66 5 0) 67 0 N := RowM_ups (RowM_r hM0 (r2 67 (by decide))) (by decide)
          have r3 := r3 (PQ_1 e1)
          rw [← hA] at r3
          have r4 : ∀ j, j < 8 → upS σ2 66 5 0 73 j = (a j : Int) := fun j hj => by rw [ups_ne (Or.inl (by decide))]; exact r3 j hj
          refine ⟨upS σ2 66 5 0, ?_, ups_eq, Inv_c hI hQ (c53 c2) (fun i hi => c2 _ (by omega)) ha (th_r (r73 r2)) hM2⟩
          refine (eX11_together (d := 7) ?_).mono (by decide)
          intro X Xr Xt hC hr
          refine bX11_together_0 hC ?_
          refine ⟨_, ctX11_people (by decide) hM0, ?_⟩
          rw [hwe]
          refine ⟨_, ctX11_wi (by decide) (by omega), ?_⟩
          rw [if_neg (by decide)]
          refine ⟨_, ctX11_wi (by decide) g, ?_⟩
          rw [if_neg (by decide)]
          refine ⟨_, _, r1, ?_⟩
          rw [e1, if_neg (by decide), ups_eq, if_neg (by decide)]
          have key : ∀ k, k ≤ s + 1 → ∀ b : Int, b = tgN N a s k → X 73 [rV 20 66, iV (s : Int), lV y, uV, iV w, iV 1, iV b, iV (k : Int)] [] (upS σ2 66 5 0) := by
            refine loop_up (P := fun k => ∀ b : Int, b = tgN N a s k → X 73 [rV 20 66, iV (s : Int), lV y, uV, iV w, iV 1, iV b, iV (k : Int)] [] (upS σ2 66 5 0)) ?_ ?_
            · intro b hb
              have hrg := tgN_rng N a s (s + 1)
              rw [← hb] at hV hrg
              refine bX11_together_73 hC ?_
              rw [if_pos (by omega)]
              by_cases q : b = -1
              · rw [if_pos q] at hV ⊢
                rw [hV] at hr; exact hr
              rw [if_neg q] at hV ⊢
              by_cases q2 : w = 1
              · rw [if_pos q2] at hV
                rw [if_neg (by omega)]
                rw [hV] at hr; exact hr
              rw [if_neg q2] at hV
              rw [if_pos (by omega)]
              obtain ⟨bn, hbn⟩ := z_nat (show 0 ≤ b by omega)
              subst hbn
              rw [Int.toNat_natCast] at hV
              rw [hV] at hr
              exact ⟨_, ctX11_bits (by decide) (by omega), hr⟩
            · intro k hk ih b hb
              have hrg := tgN_rng N a s k
              rw [← hb] at hrg
              have ih := fun y hy => ih y (show y = _ by rw [tgN_s]; exact hy)
              rw [← hb] at ih
              refine bX11_together_73 hC ?_
              rw [if_neg (by omega), w32_s (by omega)]
              by_cases q1 : iandI (k : Int) (ixorI (s : Int) (-1)) = 0
              · rw [if_pos q1] at ih ⊢
                by_cases q : b = -1
                · rw [if_pos q] at ih ⊢
                  refine ⟨_, ctX11_haveAll (by decide) hW (by omega) hM2 r4, ?_⟩
                  by_cases q2 : haB N a k = true
                  · rw [if_pos q2] at ih
                    rw [q2, if_neg (by decide)]
                    exact ih _ rfl
                  · rw [if_neg q2] at ih
                    rw [Bool.eq_false_iff.mpr q2, if_pos (by decide)]
                    exact ih _ rfl
                · rw [if_neg q] at ih ⊢
                  obtain ⟨bn, hbn⟩ := z_nat (show 0 ≤ b by omega)
                  subst hbn
                  refine ⟨_, ctX11_bits (by decide) (by omega), _, ctX11_bits (by decide) (by omega), ?_⟩
                  rw [Int.toNat_natCast] at ih
                  by_cases q3 : popc k < popc bn
                  · rw [if_pos q3] at ih
                    rw [if_pos (Int.ofNat_lt.mpr q3)]
                    refine ⟨_, ctX11_haveAll (by decide) hW (by omega) hM2 r4, ?_⟩
                    by_cases q2 : haB N a k = true
                    · rw [if_pos q2] at ih
                      rw [q2, if_neg (by decide)]
                      exact ih _ rfl
                    · rw [if_neg q2] at ih
                      rw [Bool.eq_false_iff.mpr q2, if_pos (by decide)]
                      exact ih _ rfl
                  · rw [if_neg q3] at ih
                    rw [if_neg (fun z => q3 (Int.ofNat_lt.mp z))]
                    exact ih _ rfl
              · rw [if_neg q1] at ih ⊢
                exact ih _ rfl
          exact key 0 (Nat.zero_le _) (-1) rfl
    · refine Or.inr ⟨2, σ1, by decide, ?_, ?_⟩
      · refine (eX10_together (d := 7) ?_).mono (by decide)
        intro X Xr Xt hC hr
        refine bX10_together_0 hC ?_
        refine Or.inl ⟨ctX10_needSet (by decide) h5 hQ.1 h, ?_⟩
        cases e1 : PQ N y with
        | false => exact Or.inr ⟨_, _, hnn e1, hr⟩
        | true => exact Or.inl ⟨_, hnp e1, Or.inr ⟨_, ctX10_needWhat_no (by decide) g, hr⟩⟩
      · intro τ ha
        have hM0 := RowM_c hQ.2.1 (c53 c2) ha
        refine ⟨0, upS τ 66 5 1, ?_, ups_eq, Inv_c hI hQ (c53 c2) (fun i hi => c2 _ (by omega)) ha (th_r (FrR.refl τ)) (RowM_ups hM0 (by decide))⟩
        refine (eX11_together (d := 7) ?_).mono (by decide)
        intro X Xr Xt hC hr
        refine bX11_together_0 hC ?_
        refine ⟨_, ctX11_people (by decide) hM0, ?_⟩
        rw [hwe]
        refine ⟨_, ctX11_wi (by decide) (by omega), ?_⟩
        rw [if_neg (by decide)]
        refine ⟨_, ctX11_wi_no (by decide) g, ?_⟩
        rw [if_pos (by decide), ups_eq, if_pos (by decide)]
        exact hr
  · refine Or.inr ⟨2, σ, by decide, ?_, ?_⟩
    · refine (eX10_together (d := 7) ?_).mono (by decide)
      intro X Xr Xt hC hr
      refine bX10_together_0 hC ?_
      exact Or.inr ⟨_, ctX10_needSet_no (by decide) h5 hQ.1 h, hr⟩
    · intro τ ha
      have hM0 := (InvN_ag hQ ha).2.1
      have hM : ∀ v, RowM (upS τ 66 5 v) 67 0 N := fun v => RowM_ups hM0 (by decide)
      refine ⟨0, upS τ 66 5 1, ?_, ups_eq, Inv_fr hI (th_fr ha)⟩
      refine (eX11_together (d := 7) ?_).mono (by decide)
      intro X Xr Xt hC hr
      refine bX11_together_0 hC ?_
      refine ⟨_, ctX11_people (by decide) hM0, ?_⟩
      rw [hwe]
      refine ⟨_, ctX11_wi_no (by decide) (by omega), ?_⟩
      rw [if_pos (by decide), ups_eq, if_pos (by decide)]
      exact hr
/-! owe -/
theorem w_dbt {p q : Nat} (hp : p < 5) (hq : q < 5) : w32 (w32 (156 + w32 (5 * (p : Int))) + (q : Int)) = ((156 + (5 * p + q) : Nat) : Int) := by unfold w32; omega
theorem jt_owe {ω : Nat → Int} {σ : Sg} (hI : Inv ω σ) (x y z : Int) (hz : in64 z) : Jt ω MX10_owe MX11_owe [iV x, iV y, lV z] lV cdD σ := by
  obtain ⟨N, hQ⟩ := hI.1
  have hW := hQ.2.2
  have h5 := hW.1.2.1
  have h8 := hW.1.1
  by_cases h : (0 ≤ x ∧ x < N 2) ∧ (0 ≤ y ∧ y < N 2)
  · obtain ⟨h, g⟩ := h
    by_cases e : x = y
    · refine Or.inr ⟨2, σ, by decide, ?_, ?_⟩
      · refine (eX10_owe (d := 5) ?_).mono (by decide)
        intro X Xr Xt hC hr
        refine bX10_owe_0 hC ?_
        exact Or.inr ⟨_, ctX10_needTwo_2 (by decide) hQ.1 h g e, hr⟩
      · intro τ ha
        have hM0 := (InvN_ag hQ ha).2.1
        have hM : ∀ v, RowM (upS τ 66 5 v) 67 0 N := fun v => RowM_ups hM0 (by decide)
        refine ⟨0, upS τ 66 5 2, ?_, ups_eq, Inv_fr hI (th_fr ha)⟩
        refine (eX11_owe (d := 5) ?_).mono (by decide)
        intro X Xr Xt hC hr
        refine bX11_owe_0 hC ?_
        refine ⟨_, ctX11_isP (by decide) h5 hM0 h, ?_⟩
        rw [if_neg (by decide)]
        refine ⟨_, ctX11_isP (by decide) h5 hM0 g, ?_⟩
        rw [if_neg (by decide), if_pos e, ups_eq, if_pos (by decide)]
        exact hr
    · by_cases k : 1 ≤ z ∧ z ≤ 1000000
      · obtain ⟨p, hp⟩ := z_nat h.1
        subst hp
        obtain ⟨q, hq⟩ := z_nat g.1
        subst hq
        obtain ⟨n, hn⟩ := z_nat (show 0 ≤ z by omega)
        subst hn
        have hp2 : p < N 2 := by omega
        have hq2 : q < N 2 := by omega
        have ho := hW.2.2.2.2.2.2.2.2.1 p q (by omega) (by omega)
        have hm : oN N p q * n ≤ 1000000000 * 1000000 := Nat.mul_le_mul ho.2.1 (by omega)
        have e7 : σ (8 + 1) (5 * p + q) = (oN N p q : Int) := by
          have := hQ.1.2.1 (5 * p + q) (by omega)
          rw [← Nat.add_assoc] at this
          exact this
        have hm1 : 1 ≤ oN N p q * n := Nat.mul_pos (by omega) (by omega)
        by_cases c : oN N p q * n ≤ 1000000000
        · have hWM := WFN_debt hW hp2 hq2 (fun q' => e (by rw [q'])) hm1 c
          refine Or.inl ⟨((oN N p q * n : Nat) : Int), tnS σ 7 (updN N (156 + (5 * p + q)) (oN N p q * n)), ?_, ?_⟩
          · refine (eX10_owe (d := 5) ?_).mono (by decide)
            intro X Xr Xt hC hr
            refine bX10_owe_0 hC ?_
            refine Or.inl ⟨ctX10_needTwo (by decide) hQ.1 h g e, ?_⟩
            rw [if_neg (by omega), if_neg (by omega)]
            refine ⟨_, ctX1_of (by decide) (by omega) (by omega), ?_⟩
            rw [e7, ← Int.natCast_mul, w64_n (by omega), if_neg (by omega)]
            refine ⟨_, ctX1_set (by decide) (by omega) (by omega), ?_⟩
            rw [← tnS_debt (by omega), tnS_id hQ.1] at hr
            exact hr
          · intro τ ha
            have hcf := (FrC.refl σ).tn (M := updN N (156 + (5 * p + q)) (oN N p q * n))
            have hM0 := RowM_c hQ.2.1 hcf ha
            have hM1 : RowM (upS τ 66 5 0) 67 0 N := RowM_ups hM0 (by decide)
            refine ⟨rwS (upS τ 66 5 0) 67 0 (updN N (156 + (5 * p + q)) (oN N p q * n)), ?_, by rw [rwS_cell (by decide)]; exact ups_eq, wr_end hI hcf (tnS_row _ _ _) ha (th_r (FrR.refl τ)).rw67 (rwS_row _ _ _ _) hWM⟩
            refine (eX11_owe (d := 5) ?_).mono (by decide)
            intro X Xr Xt hC hr
            refine bX11_owe_0 hC ?_
            refine ⟨_, ctX11_isP (by decide) h5 hM0 h, ?_⟩
            rw [if_neg (by decide)]
            refine ⟨_, ctX11_isP (by decide) h5 hM0 g, ?_⟩
            rw [if_neg (by decide), if_neg e]
            refine ⟨_, ctX11_wi (by decide) k, ?_⟩
            rw [if_neg (by decide)]
            refine ⟨_, ctX11_debt (by decide) (by omega) (by omega) hM0, ?_⟩
            have hnn : n ≤ 1000000 := by omega
            rw [← Int.natCast_mul, w64_n (by omega), if_neg (by omega), ups_eq, if_neg (by decide), w_dbt (by omega) (by omega), Int.toNat_natCast, rwm0 hM1 (by omega), w32_n (show n < 2147483648 by omega)]
            have e8 : N (156 + (5 * p + q)) = oN N p q := by unfold oN; rw [Nat.add_assoc]
            rw [e8, ← Int.natCast_mul, w32_n (by omega)]
            refine ⟨by omega, by omega, ?_⟩
            have e9 : upS (upS τ 66 5 0) 67 (156 + (5 * p + q)) ((oN N p q * n : Nat) : Int) = rwS (upS τ 66 5 0) 67 0 (updN N (156 + (5 * p + q)) (oN N p q * n)) := by rw [← rwS_up (by omega), rwS_id hM1]
            rw [e9]
            refine ⟨_, ctX11_debt (p := p) (q := q) (by decide) (by omega) (by omega) (rwS_row _ _ _ _), ?_⟩
            have e10 : oN (updN N (156 + (5 * p + q)) (oN N p q * n)) p q = oN N p q * n := by
              show updN N (156 + (5 * p + q)) (oN N p q * n) (156 + 5 * p + q) = _
              rw [Nat.add_assoc]
              exact updN_eq _ _ _
            rw [e10]
            exact hr
        · refine Or.inr ⟨3, σ, by decide, ?_, ?_⟩
          · refine (eX10_owe (d := 5) ?_).mono (by decide)
            intro X Xr Xt hC hr
            refine bX10_owe_0 hC ?_
            refine Or.inl ⟨ctX10_needTwo (by decide) hQ.1 h g e, ?_⟩
            rw [if_neg (by omega), if_neg (by omega)]
            refine ⟨_, ctX1_of (by decide) (by omega) (by omega), ?_⟩
            rw [e7, ← Int.natCast_mul, w64_n (by omega), if_pos (by omega)]
            exact hr
          · intro τ ha
            have hM0 := (InvN_ag hQ ha).2.1
            have hM : ∀ v, RowM (upS τ 66 5 v) 67 0 N := fun v => RowM_ups hM0 (by decide)
            refine ⟨0, upS τ 66 5 3, ?_, ups_eq, Inv_fr hI (th_fr ha)⟩
            refine (eX11_owe (d := 5) ?_).mono (by decide)
            intro X Xr Xt hC hr
            refine bX11_owe_0 hC ?_
            refine ⟨_, ctX11_isP (by decide) h5 hM0 h, ?_⟩
            rw [if_neg (by decide)]
            refine ⟨_, ctX11_isP (by decide) h5 hM0 g, ?_⟩
            rw [if_neg (by decide), if_neg e]
            refine ⟨_, ctX11_wi (by decide) k, ?_⟩
            rw [if_neg (by decide)]
            refine ⟨_, ctX11_debt (by decide) (by omega) (by omega) hM0, ?_⟩
            rw [← Int.natCast_mul, w64_n (by omega), if_pos (by omega), ups_eq, if_pos (by decide)]
            exact hr
      · refine Or.inr ⟨2, σ, by decide, ?_, ?_⟩
        · refine (eX10_owe (d := 5) ?_).mono (by decide)
          intro X Xr Xt hC hr
          refine bX10_owe_0 hC ?_
          refine Or.inl ⟨ctX10_needTwo (by decide) hQ.1 h g e, ?_⟩
          by_cases c : z < 1
          · rw [if_pos c]; exact hr
          · rw [if_neg c, if_pos (by omega)]; exact hr
        · intro τ ha
          have hM0 := (InvN_ag hQ ha).2.1
          have hM : ∀ v, RowM (upS τ 66 5 v) 67 0 N := fun v => RowM_ups hM0 (by decide)
          refine ⟨0, upS τ 66 5 2, ?_, ups_eq, Inv_fr hI (th_fr ha)⟩
          refine (eX11_owe (d := 5) ?_).mono (by decide)
          intro X Xr Xt hC hr
          refine bX11_owe_0 hC ?_
          refine ⟨_, ctX11_isP (by decide) h5 hM0 h, ?_⟩
          rw [if_neg (by decide)]
          refine ⟨_, ctX11_isP (by decide) h5 hM0 g, ?_⟩
          rw [if_neg (by decide), if_neg e]
          refine ⟨_, ctX11_wi_no (by decide) k, ?_⟩
          rw [if_pos (by decide), ups_eq, if_pos (by decide)]
          exact hr
  · refine Or.inr ⟨1, σ, by decide, ?_, ?_⟩
    · refine (eX10_owe (d := 5) ?_).mono (by decide)
      intro X Xr Xt hC hr
      refine bX10_owe_0 hC ?_
      exact Or.inr ⟨_, ctX10_needTwo_1 (by decide) hQ.1 h, hr⟩
    · intro τ ha
      have hM0 := (InvN_ag hQ ha).2.1
      have hM : ∀ v, RowM (upS τ 66 5 v) 67 0 N := fun v => RowM_ups hM0 (by decide)
      refine ⟨0, upS τ 66 5 1, ?_, ups_eq, Inv_fr hI (th_fr ha)⟩
      refine (eX11_owe (d := 5) ?_).mono (by decide)
      intro X Xr Xt hC hr
      refine bX11_owe_0 hC ?_
      by_cases a : 0 ≤ x ∧ x < N 2
      · refine ⟨_, ctX11_isP (by decide) h5 hM0 a, ?_⟩
        rw [if_neg (by decide)]
        refine ⟨_, ctX11_isP_no (by decide) h5 hM0 (fun g => h ⟨a, g⟩), ?_⟩
        rw [if_pos (by decide), ups_eq, if_pos (by decide)]
        exact hr
      · refine ⟨_, ctX11_isP_no (by decide) h5 hM0 a, ?_⟩
        rw [if_pos (by decide), ups_eq, if_pos (by decide)]
        exact hr

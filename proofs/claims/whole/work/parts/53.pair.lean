/-! PAIRS: change, readOut -/
theorem ctX10_needChange {d : Nat} {x : Int} {N : Tn} (hd : 1 ≤ d) {σ : Sg} (hR : RowT σ 7 N) (h : 0 ≤ x ∧ x < N 3) : Ct d MX10_needChange [rV 19 0, iV x] σ (.inl []) σ := by
  refine (eX10_needChange (d := 0) ?_).mono hd
  intro X Xr Xt hC hr
  refine bX10_needChange_0 hC ?_
  rw [if_neg (by omega), hR.1 3 (by omega), if_pos h.2]
  exact hr
theorem ctX10_needChange_no {d : Nat} {x : Int} {N : Tn} (hd : 1 ≤ d) {σ : Sg} (hR : RowT σ 7 N) (h : ¬ (0 ≤ x ∧ x < N 3)) : Ct d MX10_needChange [rV 19 0, iV x] σ (.inr 1) σ := by
  refine (eX10_needChange (d := 0) ?_).mono hd
  intro X Xr Xt hC hr
  refine bX10_needChange_0 hC ?_
  by_cases h0 : x < 0
  · rw [if_pos h0]; exact hr
  · rw [if_neg h0, hR.1 3 (by omega), if_neg (by omega)]; exact hr
theorem w_sid2 {k s c : Nat} (hk : k < 6) (hs : s < 2) (hc : c < 8) : w32 (w32 (w32 (52 + w32 (16 * (k : Int))) + w32 (8 * (s : Int))) + (c : Int)) = ((52 + 16 * k + 8 * s + c : Nat) : Int) := by unfold w32; omega
theorem jt_change {ω : Nat → Int} {σ : Sg} (hI : Inv ω σ) (x w : Int) : Jt ω MX10_change MX11_change [iV x, iV w] iV cdNI σ := by
  obtain ⟨N, hQ⟩ := hI.1
  have hW := hQ.2.2
  have h6 := hW.1.2.2.1
  have h8 := hW.1.1
  have e3 : w32 ((N 3 : Int) - 1) = (N 3 : Int) - 1 := by unfold w32; omega
  by_cases h : 0 ≤ x ∧ x < N 3
  · by_cases g : 0 ≤ w ∧ w ≤ 1
    · obtain ⟨k, hk⟩ := z_nat h.1
      obtain ⟨s, hs⟩ := z_nat g.1
      subst hk
      subst hs
      have hk6 : k < 6 := by omega
      have hs2 : s < 2 := by omega
      refine Or.inl ⟨(vN N k s : Int), σ, ?_, ?_⟩
      · refine (eX10_change (d := 4) ?_).mono (by decide)
        intro X Xr Xt hC hr
        refine bX10_change_0 hC ?_
        exact Or.inl ⟨ctX10_needChange (by decide) hQ.1 h, Or.inl ⟨ctX10_needWhat (by decide) g, _, ctX8_sideWorth (by decide) hW hk6 hs2 hQ.1, hr⟩⟩
      · intro τ ha
        have hM0 := (InvN_ag hQ ha).2.1
        have hM : RowM (upS τ 66 5 0) 67 0 N := RowM_ups hM0 (by decide)
        refine ⟨upS τ 66 5 0, ?_, ups_eq, Inv_fr hI (th_fr ha)⟩
        refine (eX11_change (d := 4) ?_).mono (by decide)
        intro X Xr Xt hC hr
        refine bX11_change_0 hC ?_
        rw [rwm0 hM0 (by omega), e3]
        refine ⟨_, ctX11_within (by decide), ?_⟩
        rw [decide_eq_true (show 0 ≤ (k : Int) ∧ (k : Int) ≤ (N 3 : Int) - 1 by omega), if_neg (by decide)]
        refine ⟨_, ctX11_within (by decide), ?_⟩
        rw [decide_eq_true g, if_neg (by decide), ups_eq, if_neg (by decide)]
        have key : ∀ j, j ≤ N 1 → ∀ y : Nat, y = prodN (fun c => N (4 + c) ^ sN N k s c) j → X 55 [rV 20 66, iV (k : Int), iV (s : Int), iV (y : Int), iV (j : Int), uV] [] (upS τ 66 5 0) := by
          refine loop_up (P := fun j => ∀ y : Nat, y = prodN (fun c => N (4 + c) ^ sN N k s c) j → X 55 [rV 20 66, iV (k : Int), iV (s : Int), iV (y : Int), iV (j : Int), uV] [] (upS τ 66 5 0)) ?_ ?_
          · intro y hy
            refine bX11_change_55 hC ?_
            refine ⟨_, ctX11_coins (by decide) hM, ?_⟩
            rw [if_neg (by omega), hy]
            exact hr
          · intro j hj ih y hy
            refine bX11_change_55 hC ?_
            refine ⟨_, ctX11_coins (by decide) hM, ?_⟩
            rw [if_pos (by omega)]
            have hb := vN_part hW hk6 hs2 (show j + 1 ≤ N 1 from hj)
            rw [prodN_s] at hb
            have hq := hW.2.1 j hj
            have hh := sN_le hW hk6 hs2 (show j < 8 by omega)
            have key2 : ∀ i, i ≤ sN N k s j → ∀ x : Nat, x = prodN (fun c => N (4 + c) ^ sN N k s c) j * N (4 + j) ^ i → X 67 [rV 20 66, iV (k : Int), iV (s : Int), iV (x : Int), iV (j : Int), iV (i : Int)] [] (upS τ 66 5 0) := by
              refine loop_up (P := fun i => ∀ x : Nat, x = prodN (fun c => N (4 + c) ^ sN N k s c) j * N (4 + j) ^ i → X 67 [rV 20 66, iV (k : Int), iV (s : Int), iV (x : Int), iV (j : Int), iV (i : Int)] [] (upS τ 66 5 0)) ?_ ?_
              · intro x hx
                refine bX11_change_67 hC ?_
                rw [w_sid2 hk6 hs2 (by omega)]
                refine ⟨by omega, ?_⟩
                rw [Int.toNat_natCast, rwm0 hM (by omega)]
                have e : N (52 + 16 * k + 8 * s + j) = sN N k s j := rfl
                rw [e, if_neg (by omega), w32_s (by omega)]
                exact ih _ hx
              · intro i hi ihi x hx
                refine bX11_change_67 hC ?_
                rw [w_sid2 hk6 hs2 (by omega)]
                refine ⟨by omega, ?_⟩
                rw [Int.toNat_natCast, rwm0 hM (by omega)]
                have e : N (52 + 16 * k + 8 * s + j) = sN N k s j := rfl
                rw [e, if_pos (by omega)]
                refine ⟨_, ctX11_prime (by decide) (by omega) hM, ?_⟩
                have e : x * N (4 + j) = prodN (fun c => N (4 + c) ^ sN N k s c) j * N (4 + j) ^ (i + 1) := by
                  rw [hx, Nat.mul_assoc]
                  rfl
                have hm : prodN (fun c => N (4 + c) ^ sN N k s c) j * N (4 + j) ^ (i + 1) ≤ prodN (fun c => N (4 + c) ^ sN N k s c) j * N (4 + j) ^ sN N k s j := Nat.mul_le_mul_left _ (Nat.pow_le_pow_right (by omega) (by omega))
                rw [← Int.natCast_mul, w32_n (by omega), w32_s (by omega)]
                exact ihi _ e
            exact key2 0 (Nat.zero_le _) _ (by rw [Nat.pow_zero, Nat.mul_one, hy])
        exact key 0 (Nat.zero_le _) 1 rfl
    · refine Or.inr ⟨2, σ, by decide, ?_, ?_⟩
      · refine (eX10_change (d := 4) ?_).mono (by decide)
        intro X Xr Xt hC hr
        refine bX10_change_0 hC ?_
        exact Or.inl ⟨ctX10_needChange (by decide) hQ.1 h, Or.inr ⟨_, ctX10_needWhat_no (by decide) g, hr⟩⟩
      · intro τ ha
        have hM0 := (InvN_ag hQ ha).2.1
        refine ⟨0, upS τ 66 5 2, ?_, ups_eq, Inv_fr hI (th_fr ha)⟩
        refine (eX11_change (d := 4) ?_).mono (by decide)
        intro X Xr Xt hC hr
        refine bX11_change_0 hC ?_
        rw [rwm0 hM0 (by omega), e3]
        refine ⟨_, ctX11_within (by decide), ?_⟩
        rw [decide_eq_true (show 0 ≤ x ∧ x ≤ (N 3 : Int) - 1 by omega), if_neg (by decide)]
        refine ⟨_, ctX11_within (by decide), ?_⟩
        rw [decide_eq_false g, if_pos (by decide), ups_eq, if_pos (by decide)]
        exact hr
  · refine Or.inr ⟨1, σ, by decide, ?_, ?_⟩
    · refine (eX10_change (d := 4) ?_).mono (by decide)
      intro X Xr Xt hC hr
      refine bX10_change_0 hC ?_
      exact Or.inr ⟨_, ctX10_needChange_no (by decide) hQ.1 h, hr⟩
    · intro τ ha
      have hM0 := (InvN_ag hQ ha).2.1
      refine ⟨0, upS τ 66 5 1, ?_, ups_eq, Inv_fr hI (th_fr ha)⟩
      refine (eX11_change (d := 4) ?_).mono (by decide)
      intro X Xr Xt hC hr
      refine bX11_change_0 hC ?_
      rw [rwm0 hM0 (by omega), e3]
      refine ⟨_, ctX11_within (by decide), ?_⟩
      rw [decide_eq_false (show ¬ (0 ≤ x ∧ x ≤ (N 3 : Int) - 1) by omega), if_pos (by decide), ups_eq, if_pos (by decide)]
      exact hr

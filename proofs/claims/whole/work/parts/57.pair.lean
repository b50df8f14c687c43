/-! PAIRS: readOut -/
def trP (N : Tn) (k : Nat) : Nat := prodN (fun c => N (4 + c) ^ N (148 + c)) k
theorem trP_s (N : Tn) (k : Nat) : trP N (k + 1) = trP N k * N (4 + k) ^ N (148 + k) := rfl
theorem jt_readOut {ω : Nat → Int} {σ : Sg} (hI : Inv ω σ) (x : Int) : Jt ω MX10_readOut MX11_readOut [lV x] lV cdI σ := by
  obtain ⟨N, hQ⟩ := hI.1
  have hW := hQ.2.2
  have h8 := hW.1.1
  by_cases h : 1 ≤ x ∧ x ≤ 1000000000
  · obtain ⟨m, hm⟩ := z_nat (show 0 ≤ x by omega)
    subst hm
    have t1 : (1 : Int).tmod (m : Int) = ((1 % m : Nat) : Int) := tmod_nat 1 m
    have hlt : ∀ a : Nat, a % m < m := fun a => Nat.mod_lt a (by omega)
    refine Or.inl ⟨((trP N (N 1) % m : Nat) : Int), σ, ?_, ?_⟩
    · refine (eX10_readOut (d := 4) ?_).mono (by decide)
      intro X Xr Xt hC hr
      refine bX10_readOut_0 hC ?_
      rw [if_neg (by omega), if_neg (by omega), t1]
      refine ⟨by omega, ?_⟩
      have hc := hQ.1.1 1 (by omega)
      have key : ∀ k, k ≤ N 1 → ∀ y : Nat, y = trP N k % m → X 31 [rV 19 0, lV (m : Int), uV, lV (y : Int), uV, iV (k : Int)] [] σ := by
        refine loop_up (P := fun k => ∀ y : Nat, y = trP N k % m → X 31 [rV 19 0, lV (m : Int), uV, lV (y : Int), uV, iV (k : Int)] [] σ) ?_ ?_
        · intro y hy
          refine bX10_readOut_31 hC ?_
          rw [hc, if_neg (by omega), hy]
          exact hr
        · intro k hk ih y hy
          refine bX10_readOut_31 hC ?_
          have ht := (hW.2.2.2.2.2.2.2.1 k (by omega)).1
          rw [hc, if_pos (by omega)]
          refine ⟨_, ctX8_primeOf (by decide) hW hk hQ.1, _, ctX8_inTreasury (by decide) hW hk hQ.1, _, ctX3_power (by decide) (by omega) (by omega) (by omega), by omega, ?_⟩
          have l1 : y < m := by rw [hy]; exact hlt _
          have l2 := mul_lt9 (by omega) l1 (hlt (N (4 + k) ^ N (148 + k)))
          rw [← Int.natCast_mul, w64_n (by omega), tmod_nat, w32_s (by omega)]
          exact ih _ (by rw [hy, ← Nat.mul_mod, trP_s])
      exact key 0 (Nat.zero_le _) _ rfl
    · intro τ ha
      have hM : RowM (upS τ 66 5 0) 67 0 N := RowM_ups (InvN_ag hQ ha).2.1 (by decide)
      refine ⟨upS τ 66 5 0, ?_, ups_eq, Inv_fr hI (th_fr ha)⟩
      refine (eX11_readOut (d := 4) ?_).mono (by decide)
      intro X Xr Xt hC hr
      refine bX11_readOut_0 hC ?_
      refine ⟨_, ctX11_within (by decide), ?_⟩
      rw [decide_eq_true h, if_neg (by decide), t1]
      refine ⟨by omega, ?_⟩
      have key : ∀ k, k ≤ N 1 → ∀ y : Nat, y = trP N k % m → X 30 [rV 20 66, lV (m : Int), uV, lV (y : Int), uV, iV (k : Int), uV] [] (upS τ 66 5 0) := by
        refine loop_up (P := fun k => ∀ y : Nat, y = trP N k % m → X 30 [rV 20 66, lV (m : Int), uV, lV (y : Int), uV, iV (k : Int), uV] [] (upS τ 66 5 0)) ?_ ?_
        · intro y hy
          refine bX11_readOut_30 hC ?_
          refine ⟨_, ctX11_coins (by decide) hM, ?_⟩
          rw [if_neg (by omega), hy]
          exact hr
        · intro k hk ih y hy
          refine bX11_readOut_30 hC ?_
          refine ⟨_, ctX11_coins (by decide) hM, ?_⟩
          rw [if_pos (by omega)]
          have ht := (hW.2.2.2.2.2.2.2.1 k (by omega)).1
          have hp := hW.2.1 k hk
          have hw : w32 (148 + (k : Int)) = ((148 + k : Nat) : Int) := by unfold w32; omega
          have key2 : ∀ i, i ≤ N (148 + k) → ∀ y : Nat, y = trP N k * N (4 + k) ^ i % m → X 42 [rV 20 66, lV (m : Int), uV, lV (y : Int), uV, iV (k : Int), iV (i : Int)] [] (upS τ 66 5 0) := by
            refine loop_up (P := fun i => ∀ y : Nat, y = trP N k * N (4 + k) ^ i % m → X 42 [rV 20 66, lV (m : Int), uV, lV (y : Int), uV, iV (k : Int), iV (i : Int)] [] (upS τ 66 5 0)) ?_ ?_
            · intro y hy
              refine bX11_readOut_42 hC ?_
              rw [hw]
              refine ⟨by omega, ?_⟩
              rw [Int.toNat_natCast, rwm0 hM (by omega), if_neg (by omega), w32_s (by omega)]
              exact ih _ hy
            · intro i hi ihi y hy
              refine bX11_readOut_42 hC ?_
              rw [hw]
              refine ⟨by omega, ?_⟩
              rw [Int.toNat_natCast, rwm0 hM (by omega), if_pos (by omega)]
              refine ⟨_, ctX11_prime (by decide) (by omega) hM, by omega, ?_⟩
              have l1 : y < m := by rw [hy]; exact hlt _
              have l2 : y * N (4 + k) ≤ 1000000000 * 97 := Nat.mul_le_mul (by omega) hp.2.2
              rw [← Int.natCast_mul, w64_n (by omega), tmod_nat, w32_s (by omega)]
              refine ihi _ ?_
              rw [hy, Nat.mod_mul_mod, Nat.mul_assoc]
              rfl
          exact key2 0 (Nat.zero_le _) _ (by rw [Nat.pow_zero, Nat.mul_one, hy])
      exact key 0 (Nat.zero_le _) _ rfl
  · refine Or.inr ⟨2, σ, by decide, ?_, ?_⟩
    · refine (eX10_readOut (d := 4) ?_).mono (by decide)
      intro X Xr Xt hC hr
      refine bX10_readOut_0 hC ?_
      by_cases h0 : x < 1
      · rw [if_pos h0]; exact hr
      · rw [if_neg h0, if_pos (by omega)]; exact hr
    · intro τ ha
      refine ⟨0, upS (upS τ 66 5 0) 66 5 1, ?_, ups_eq, Inv_fr hI ((th_fr ha).ups66 (by decide) (by decide) (by decide))⟩
      refine (eX11_readOut (d := 4) ?_).mono (by decide)
      intro X Xr Xt hC hr
      refine bX11_readOut_0 hC ?_
      refine ⟨_, ctX11_within (by decide), ?_⟩
      rw [decide_eq_false h, if_pos (by decide)]
      exact ⟨_, _, ctX11_fails (by decide), hr⟩

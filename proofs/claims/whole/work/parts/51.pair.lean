/-! PAIRS: the calls that only read -/
theorem InvN_ag {σ τ : Sg} {N : Tn} (h : InvN σ N) (a : ag80 σ τ) : InvN τ N := InvN_fr h (ag80_fr a)
theorem th_fr {σ τ : Sg} {v : Int} (h : ag80 σ τ) : Fr σ (upS τ 66 5 v) := (ag80_fr h).ups66 (by decide) (by decide) (by decide)
theorem jt_coin {ω : Nat → Int} {σ : Sg} (hI : Inv ω σ) (x : Int) : Jt ω MX10_coin MX11_coin [iV x] iV cdN σ := by
  obtain ⟨N, hN⟩ := hI.1
  have hW := hN.2.2
  have h8 := hW.1.1
  by_cases h : 0 ≤ x ∧ x < N 1
  · refine Or.inl ⟨(N (4 + x.toNat) : Int), σ, ?_, ?_⟩
    · refine (eX10_coin (d := 1) ?_).mono (by decide)
      intro X Xr Xt hC hr
      refine bX10_coin_0 hC ?_
      rw [if_neg (by omega), hN.1.1 1 (by omega), if_pos h.2]
      exact ⟨_, ctX8_primeOf_z (by decide) hW h.1 h.2 hN.1, hr⟩
    · intro τ ha
      have hM : RowM (upS τ 66 5 0) 67 0 N := RowM_ups (InvN_ag hN ha).2.1 (by decide)
      refine ⟨upS τ 66 5 0, ?_, ups_eq, Inv_fr hI (th_fr ha)⟩
      refine (eX11_coin (d := 1) ?_).mono (by decide)
      intro X Xr Xt hC hr
      refine bX11_coin_0 hC ?_
      refine ⟨_, ctX11_coins (by decide) hM, _, ctX11_within (by decide), ?_⟩
      rw [show w32 ((N 1 : Int) - 1) = (N 1 : Int) - 1 by unfold w32; omega, decide_eq_true (show 0 ≤ x ∧ x ≤ (N 1 : Int) - 1 by omega), if_neg (by decide)]
      exact ⟨_, ctX11_prime_z (by decide) h.1 (by omega) hM, hr⟩
  · refine Or.inr ⟨1, σ, by decide, ?_, ?_⟩
    · refine (eX10_coin (d := 1) ?_).mono (by decide)
      intro X Xr Xt hC hr
      refine bX10_coin_0 hC ?_
      by_cases h0 : x < 0
      · rw [if_pos h0]; exact hr
      · rw [if_neg h0, hN.1.1 1 (by omega), if_neg (by omega)]; exact hr
    · intro τ ha
      have hM : RowM (upS τ 66 5 0) 67 0 N := RowM_ups (InvN_ag hN ha).2.1 (by decide)
      refine ⟨0, upS (upS τ 66 5 0) 66 5 1, ?_, ups_eq, Inv_fr hI ((th_fr ha).ups66 (by decide) (by decide) (by decide))⟩
      refine (eX11_coin (d := 1) ?_).mono (by decide)
      intro X Xr Xt hC hr
      refine bX11_coin_0 hC ?_
      refine ⟨_, ctX11_coins (by decide) hM, _, ctX11_within (by decide), ?_⟩
      rw [show w32 ((N 1 : Int) - 1) = (N 1 : Int) - 1 by unfold w32; omega, decide_eq_false (show ¬ (0 ≤ x ∧ x ≤ (N 1 : Int) - 1) by omega), if_pos (by decide)]
      exact ⟨_, _, ctX11_fails (by decide), hr⟩
theorem z_nat {x : Int} (h : 0 ≤ x) : ∃ p : Nat, x = (p : Int) := ⟨x.toNat, by omega⟩
theorem jt_worth {ω : Nat → Int} {σ : Sg} (hI : Inv ω σ) (x : Int) : Jt ω MX10_worth MX11_worth [iV x] lV cdN σ := by
  obtain ⟨N, hN⟩ := hI.1
  have hW := hN.2.2
  have h5 := hW.1.2.1
  by_cases h : 0 ≤ x ∧ x < N 2
  · obtain ⟨p, hp⟩ := z_nat h.1
    subst hp
    refine Or.inl ⟨(wN N p : Int), σ, ?_, ?_⟩
    · refine (eX10_worth (d := 2) ?_).mono (by decide)
      intro X Xr Xt hC hr
      refine bX10_worth_0 hC ?_
      exact Or.inl ⟨ctX10_needPerson (by decide) hN.1 h, _, ctX8_worthOf (by decide) hW (by omega) hN.1, hr⟩
    · intro τ ha
      have hM : RowM (upS τ 66 5 0) 67 0 N := RowM_ups (InvN_ag hN ha).2.1 (by decide)
      refine ⟨upS τ 66 5 0, ?_, ups_eq, Inv_fr hI (th_fr ha)⟩
      refine (eX11_worth (d := 2) ?_).mono (by decide)
      intro X Xr Xt hC hr
      refine bX11_worth_0 hC ?_
      refine ⟨_, ctX11_isPerson (by decide) h5 hM, ?_⟩
      rw [decide_eq_true h, if_neg (by decide)]
      exact ⟨_, ctX11_worthOf (by decide) (by omega) hW hM, hr⟩
  · refine Or.inr ⟨1, σ, by decide, ?_, ?_⟩
    · refine (eX10_worth (d := 2) ?_).mono (by decide)
      intro X Xr Xt hC hr
      refine bX10_worth_0 hC ?_
      exact Or.inr ⟨_, ctX10_needPerson_no (by decide) hN.1 h, hr⟩
    · intro τ ha
      have hM : RowM (upS τ 66 5 0) 67 0 N := RowM_ups (InvN_ag hN ha).2.1 (by decide)
      refine ⟨0, upS (upS τ 66 5 0) 66 5 1, ?_, ups_eq, Inv_fr hI ((th_fr ha).ups66 (by decide) (by decide) (by decide))⟩
      refine (eX11_worth (d := 2) ?_).mono (by decide)
      intro X Xr Xt hC hr
      refine bX11_worth_0 hC ?_
      refine ⟨_, ctX11_isPerson (by decide) h5 hM, ?_⟩
      rw [decide_eq_false h, if_pos (by decide)]
      exact ⟨_, _, ctX11_fails (by decide), hr⟩
theorem jt_has {ω : Nat → Int} {σ : Sg} (hI : Inv ω σ) (x q : Int) : Jt ω MX10_has MX11_has [iV x, iV q] iV cdN σ := by
  obtain ⟨N, hN⟩ := hI.1
  have hW := hN.2.2
  have h5 := hW.1.2.1
  have h8 := hW.1.1
  by_cases h : 0 ≤ x ∧ x < N 2
  · obtain ⟨p, hp⟩ := z_nat h.1
    subst hp
    have hnr := nrN_rng N q
    have hcl : Ct 2 MX8_numberOf [rV 17 7, iV q] σ (.inl [iV (nrN N q)]) σ := ctX8_numberOf (by decide) h8 (hN.1.1 1 (by omega)) hN.1.2.2.1
    by_cases hc : nrN N q = -1
    · refine Or.inl ⟨0, σ, ?_, ?_⟩
      · refine (eX10_has (d := 2) ?_).mono (by decide)
        intro X Xr Xt hC hr
        refine bX10_has_0 hC ?_
        refine Or.inl ⟨ctX10_needPerson (by decide) hN.1 h, _, hcl, ?_⟩
        rw [hc]
        exact ⟨_, ctX8_held_no (by decide), hr⟩
      · intro τ ha
        have hM : RowM (upS τ 66 5 0) 67 0 N := RowM_ups (InvN_ag hN ha).2.1 (by decide)
        refine ⟨upS τ 66 5 0, ?_, ups_eq, Inv_fr hI (th_fr ha)⟩
        refine (eX11_has (d := 2) ?_).mono (by decide)
        intro X Xr Xt hC hr
        refine bX11_has_0 hC ?_
        refine ⟨_, ctX11_isPerson (by decide) h5 hM, ?_⟩
        rw [decide_eq_true h, if_neg (by decide)]
        refine ⟨_, ctX11_coinOf (by decide) h8 hM, ?_⟩
        rw [if_pos hc]
        exact hr
    · obtain ⟨c, hc2⟩ := z_nat (show 0 ≤ nrN N q by omega)
      rw [hc2] at hcl
      refine Or.inl ⟨(Nat.cast (R := Int) (N (12 + 8 * p + c))), σ, ?_, ?_⟩
      · refine (eX10_has (d := 2) ?_).mono (by decide)
        intro X Xr Xt hC hr
        refine bX10_has_0 hC ?_
        exact Or.inl ⟨ctX10_needPerson (by decide) hN.1 h, _, hcl, _, ctX8_held (by decide) (by omega) (by omega) hN.1, hr⟩
      · intro τ ha
        have hM : RowM (upS τ 66 5 0) 67 0 N := RowM_ups (InvN_ag hN ha).2.1 (by decide)
        refine ⟨upS τ 66 5 0, ?_, ups_eq, Inv_fr hI (th_fr ha)⟩
        refine (eX11_has (d := 2) ?_).mono (by decide)
        intro X Xr Xt hC hr
        refine bX11_has_0 hC ?_
        refine ⟨_, ctX11_isPerson (by decide) h5 hM, ?_⟩
        rw [decide_eq_true h, if_neg (by decide)]
        refine ⟨_, ctX11_coinOf (by decide) h8 hM, ?_⟩
        rw [if_neg hc, hc2]
        exact ⟨_, ctX11_of (by decide) (by omega) (by omega) hM, hr⟩
  · refine Or.inr ⟨1, σ, by decide, ?_, ?_⟩
    · refine (eX10_has (d := 2) ?_).mono (by decide)
      intro X Xr Xt hC hr
      refine bX10_has_0 hC ?_
      exact Or.inr ⟨_, ctX10_needPerson_no (by decide) hN.1 h, hr⟩
    · intro τ ha
      have hM : RowM (upS τ 66 5 0) 67 0 N := RowM_ups (InvN_ag hN ha).2.1 (by decide)
      refine ⟨0, upS (upS τ 66 5 0) 66 5 1, ?_, ups_eq, Inv_fr hI ((th_fr ha).ups66 (by decide) (by decide) (by decide))⟩
      refine (eX11_has (d := 2) ?_).mono (by decide)
      intro X Xr Xt hC hr
      refine bX11_has_0 hC ?_
      refine ⟨_, ctX11_isPerson (by decide) h5 hM, ?_⟩
      rw [decide_eq_false h, if_pos (by decide)]
      exact ⟨_, _, ctX11_fails (by decide), hr⟩

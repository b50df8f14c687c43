/-! PAIRS: the calls that only read -/
theorem InvN_ag {σ τ : Sg} {N : Tn} (h : InvN σ N) (a : ag80 σ τ) : InvN τ N := InvN_fr h (ag80_fr a)
theorem th_fr {σ τ : Sg} {v : Int} (h : ag80 σ τ) : Fr σ (upS τ 66 5 v) := (ag80_fr h).ups66 (by decide) (by decide) (by decide)
theorem jt_coin {ω : Nat → Int} {σ : Sg} (hI : Inv ω σ) (x : Int) : Jt ω MX10_coin MX11_coin [iV x] iV cdN σ := by
  obtain ⟨N, hN⟩ := hI.1
  have hW := hN.2.2
  have h8 := hW.1.1
  by_cases h : 0 ≤ x ∧ x < N 1
  · refine Or.inl ⟨(N (4 + x.toNat) : Int), σ, ?_, ?_⟩
    · refine (eX10_coin (d := 1) ?_).mono (by decide)
      intro X Xr Xt hC hr
      refine bX10_coin_0 hC ?_
      rw [if_neg (by omega), hN.1.1 1 (by omega), if_pos h.2]
      exact ⟨_, ctX8_primeOf_z (by decide) hW h.1 h.2 hN.1, hr⟩
    · intro τ ha
      have hM : RowM (upS τ 66 5 0) 67 0 N := RowM_ups (InvN_ag hN ha).2.1 (by decide)
      refine ⟨upS τ 66 5 0, ?_, ups_eq, Inv_fr hI (th_fr ha)⟩
      refine (eX11_coin (d := 1) ?_).mono (by decide)
      intro X Xr Xt hC hr
      refine bX11_coin_0 hC ?_
      refine ⟨_, ctX11_coins (by decide) hM, _, ctX11_within (by decide), ?_⟩
      rw [show w32 ((N 1 : Int) - 1) = (N 1 : Int) - 1 by unfold w32; omega, decide_eq_true (show 0 ≤ x ∧ x ≤ (N 1 : Int) - 1 by omega), if_neg (by decide)]
      exact ⟨_, ctX11_prime_z (by decide) h.1 (by omega) hM, hr⟩
  · refine Or.inr ⟨1, σ, by decide, ?_, ?_⟩
    · refine (eX10_coin (d := 1) ?_).mono (by decide)
      intro X Xr Xt hC hr
      refine bX10_coin_0 hC ?_
      by_cases h0 : x < 0
      · rw [if_pos h0]; exact hr
      · rw [if_neg h0, hN.1.1 1 (by omega), if_neg (by omega)]; exact hr
    · intro τ ha
      have hM : RowM (upS τ 66 5 0) 67 0 N := RowM_ups (InvN_ag hN ha).2.1 (by decide)
      refine ⟨0, upS (upS τ 66 5 0) 66 5 1, ?_, ups_eq, Inv_fr hI ((th_fr ha).ups66 (by decide) (by decide) (by decide))⟩
      refine (eX11_coin (d := 1) ?_).mono (by decide)
      intro X Xr Xt hC hr
      refine bX11_coin_0 hC ?_
      refine ⟨_, ctX11_coins (by decide) hM, _, ctX11_within (by decide), ?_⟩
      rw [show w32 ((N 1 : Int) - 1) = (N 1 : Int) - 1 by unfold w32; omega, decide_eq_false (show ¬ (0 ≤ x ∧ x ≤ (N 1 : Int) - 1) by omega), if_pos (by decide)]
      exact ⟨_, _, ctX11_fails (by decide), hr⟩
theorem z_nat {x : Int} (h : 0 ≤ x) : ∃ p : Nat, x = (p : Int) := ⟨x.toNat, by omega⟩
theorem jt_worth {ω : Nat → Int} {σ : Sg} (hI : Inv ω σ) (x : Int) : Jt ω MX10_worth MX11_worth [iV x] lV cdN σ := by
  obtain ⟨N, hN⟩ := hI.1
  have hW := hN.2.2
  have h5 := hW.1.2.1
  by_cases h : 0 ≤ x ∧ x < N 2
  · obtain ⟨p, hp⟩ := z_nat h.1
    subst hp
    refine Or.inl ⟨(wN N p : Int), σ, ?_, ?_⟩
    · refine (eX10_worth (d := 2) ?_).mono (by decide)
      intro X Xr Xt hC hr
      refine bX10_worth_0 hC ?_
      exact Or.inl ⟨ctX10_needPerson (by decide) hN.1 h, _, ctX8_worthOf (by decide) hW (by omega) hN.1, hr⟩
    · intro τ ha
      have hM : RowM (upS τ 66 5 0) 67 0 N := RowM_ups (InvN_ag hN ha).2.1 (by decide)
      refine ⟨upS τ 66 5 0, ?_, ups_eq, Inv_fr hI (th_fr ha)⟩
      refine (eX11_worth (d := 2) ?_).mono (by decide)
      intro X Xr Xt hC hr
      refine bX11_worth_0 hC ?_
      refine ⟨_, ctX11_isPerson (by decide) h5 hM, ?_⟩
      rw [decide_eq_true h, if_neg (by decide)]
      exact ⟨_, ctX11_worthOf (by decide) (by omega) hW hM, hr⟩
  · refine Or.inr ⟨1, σ, by decide, ?_, ?_⟩
    · refine (eX10_worth (d := 2) ?_).mono (by decide)
      intro X Xr Xt hC hr
      refine bX10_worth_0 hC ?_
      exact Or.inr ⟨_, ctX10_needPerson_no (by decide) hN.1 h, hr⟩
    · intro τ ha
      have hM : RowM (upS τ 66 5 0) 67 0 N := RowM_ups (InvN_ag hN ha).2.1 (by decide)
      refine ⟨0, upS (upS τ 66 5 0) 66 5 1, ?_, ups_eq, Inv_fr hI ((th_fr ha).ups66 (by decide) (by decide) (by decide))⟩
      refine (eX11_worth (d := 2) ?_).mono (by decide)
      intro X Xr Xt hC hr
      refine bX11_worth_0 hC ?_
      refine ⟨_, ctX11_isPerson (by decide) h5 hM, ?_⟩
      rw [decide_eq_false h, if_pos (by decide)]
      exact ⟨_, _, ctX11_fails (by decide), hr⟩
theorem jt_has {ω : Nat → Int} {σ : Sg} (hI : Inv ω σ) (x q : Int) : Jt ω MX10_has MX11_has [iV x, iV q] iV cdN σ := by
  obtain ⟨N, hN⟩ := hI.1
  have hW := hN.2.2
  have h5 := hW.1.2.1
  have h8 := hW.1.1
  by_cases h : 0 ≤ x ∧ x < N 2
  · obtain ⟨p, hp⟩ := z_nat h.1
    subst hp
    have hnr := nrN_rng N q
    have hcl : Ct 2 MX8_numberOf [rV 17 7, iV q] σ (.inl [iV (nrN N q)]) σ := ctX8_numberOf (by decide) h8 (hN.1.1 1 (by omega)) hN.1.2.2.1
    by_cases hc : nrN N q = -1
    · refine Or.inl ⟨0, σ, ?_, ?_⟩
      · refine (eX10_has (d := 2) ?_).mono (by decide)
        intro X Xr Xt hC hr
        refine bX10_has_0 hC ?_
        refine Or.inl ⟨ctX10_needPerson (by decide) hN.1 h, _, hcl, ?_⟩
        rw [hc]
        exact ⟨_, ctX8_held_no (by decide), hr⟩
      · intro τ ha
        have hM : RowM (upS τ 66 5 0) 67 0 N := RowM_ups (InvN_ag hN ha).2.1 (by decide)
        refine ⟨upS τ 66 5 0, ?_, ups_eq, Inv_fr hI (th_fr ha)⟩
        refine (eX11_has (d := 2) ?_).mono (by decide)
        intro X Xr Xt hC hr
        refine bX11_has_0 hC ?_
        refine ⟨_, ctX11_isPerson (by decide) h5 hM, ?_⟩
        rw [decide_eq_true h, if_neg (by decide)]
        refine ⟨_, ctX11_coinOf (by decide) h8 hM, ?_⟩
        rw [if_pos hc]
        exact hr
    · obtain ⟨c, hc2⟩ := z_nat (show 0 ≤ nrN N q by omega)
      rw [hc2] at hcl
      refine Or.inl ⟨(Nat.cast (R := Int) (N (12 + 8 * p + c))), σ, ?_, ?_⟩
      · refine (eX10_has (d := 2) ?_).mono (by decide)
        intro X Xr Xt hC hr
        refine bX10_has_0 hC ?_
        exact Or.inl ⟨ctX10_needPerson (by decide) hN.1 h, _, hcl, _, ctX8_held (by decide) (by omega) (by omega) hN.1, hr⟩
      · intro τ ha
        have hM : RowM (upS τ 66 5 0) 67 0 N := RowM_ups (InvN_ag hN ha).2.1 (by decide)
        refine ⟨upS τ 66 5 0, ?_, ups_eq, Inv_fr hI (th_fr ha)⟩
        refine (eX11_has (d := 2) ?_).mono (by decide)
        intro X Xr Xt hC hr
        refine bX11_has_0 hC ?_
        refine ⟨_, ctX11_isPerson (by decide) h5 hM, ?_⟩
        rw [decide_eq_true h, if_neg (by decide)]
        refine ⟨_, ctX11_coinOf (by decide) h8 hM, ?_⟩
        rw [if_neg hc, hc2]
        exact ⟨_, ctX11_of (by decide) (by omega) (by omega) hM, hr⟩
  · refine Or.inr ⟨1, σ, by decide, ?_, ?_⟩
    · refine (eX10_has (d := 2) ?_).mono (by decide)
      intro X Xr Xt hC hr
      refine bX10_has_0 hC ?_
      exact Or.inr ⟨_, ctX10_needPerson_no (by decide) hN.1 h, hr⟩
    · intro τ ha
      have hM : RowM (upS τ 66 5 0) 67 0 N := RowM_ups (InvN_ag hN ha).2.1 (by decide)
      refine ⟨0, upS (upS τ 66 5 0) 66 5 1, ?_, ups_eq, Inv_fr hI ((th_fr ha).ups66 (by decide) (by decide) (by decide))⟩
      refine (eX11_has (d := 2) ?_).mono (by decide)
      intro X Xr Xt hC hr
      refine bX11_has_0 hC ?_
      refine ⟨_, ctX11_isPerson (by decide) h5 hM, ?_⟩
      rw [decide_eq_false h, if_pos (by decide)]
      exact ⟨_, _, ctX11_fails (by decide), hr⟩
theorem jn_treasury {ω : Nat → Int} {σ : Sg} (hI : Inv ω σ) (q : Int) : Jn ω MX10_treasury MX11_treasury [iV q] iV σ := by
  obtain ⟨N, hN⟩ := hI.1
  have hW := hN.2.2
  have h8 := hW.1.1
  have hnr := nrN_rng N q
  have hcl : Ct 2 MX8_numberOf [rV 17 7, iV q] σ (.inl [iV (nrN N q)]) σ := ctX8_numberOf (by decide) h8 (hN.1.1 1 (by omega)) hN.1.2.2.1
  have hM : RowM (upS σ 66 5 0) 67 0 N := RowM_ups hN.2.1 (by decide)
  have hf : Fr σ (upS σ 66 5 0) := (Fr.refl σ).ups66 (by decide) (by decide) (by decide)
  by_cases hc : nrN N q = -1
  · refine ⟨0, σ, ?_, upS σ 66 5 0, ?_, Inv_fr hI hf⟩
    · refine (eX10_treasury (d := 2) ?_).mono (by decide)
      intro X Xr Xt hC hr
      refine bX10_treasury_0 hC ?_
      refine ⟨_, hcl, ?_⟩
      rw [hc]
      exact ⟨_, ctX8_inTreasury_no (by decide), hr⟩
    · refine (eX11_treasury (d := 2) ?_).mono (by decide)
      intro X Xr Xt hC hr
      refine bX11_treasury_0 hC ?_
      refine ⟨_, ctX11_coinOf (by decide) h8 hM, ?_⟩
      rw [if_pos hc]
      exact hr
  · obtain ⟨c, hc2⟩ := z_nat (show 0 ≤ nrN N q by omega)
    rw [hc2] at hcl
    refine ⟨(N (148 + c) : Int), σ, ?_, upS σ 66 5 0, ?_, Inv_fr hI hf⟩
    · refine (eX10_treasury (d := 2) ?_).mono (by decide)
      intro X Xr Xt hC hr
      refine bX10_treasury_0 hC ?_
      exact ⟨_, hcl, _, ctX8_inTreasury (by decide) hW (by omega) hN.1, hr⟩
    · refine (eX11_treasury (d := 2) ?_).mono (by decide)
      intro X Xr Xt hC hr
      refine bX11_treasury_0 hC ?_
      refine ⟨_, ctX11_coinOf (by decide) h8 hM, ?_⟩
      rw [if_neg hc, hc2, show w32 (148 + (c : Int)) = ((148 + c : Nat) : Int) by unfold w32; omega]
      refine ⟨by omega, ?_⟩
      rw [Int.toNat_natCast, rwm0 hM (by omega)]
      exact hr
theorem jn_fault {ω : Nat → Int} {σ : Sg} (hI : Inv ω σ) (q : Int) : Jn ω MX10_fault MX11_fault [iV q] iV σ := by
  obtain ⟨n, h1, h2, h3, h4, h5, h6⟩ := hI.2.2.1
  have hf : Fr σ (upS σ 66 5 0) := (Fr.refl σ).ups66 (by decide) (by decide) (by decide)
  refine ⟨if q = 0 then σ 0 2 else if q = 1 then σ 0 3 else -1, σ, ?_, upS σ 66 5 0, ?_, Inv_fr hI hf⟩
  · refine (eX10_fault (d := 2) ?_).mono (by decide)
    intro X Xr Xt hC hr
    refine bX10_fault_0 hC ?_
    by_cases a : q = 0
    · rw [if_pos a] at hr ⊢; exact hr
    rw [if_neg a] at hr ⊢
    by_cases b : q = 1
    · rw [if_pos b] at hr ⊢; exact hr
    rw [if_neg b] at hr ⊢
    exact hr
  · refine (eX11_fault (d := 2) ?_).mono (by decide)
    intro X Xr Xt hC hr
    refine bX11_fault_0 hC ?_
    rw [hf.2.2.1, hf.2.2.2, ← h5, ← h6]
    by_cases a : q = 0
    · rw [if_pos a] at hr ⊢; exact hr
    rw [if_neg a] at hr ⊢
    by_cases b : q = 1
    · rw [if_pos b] at hr ⊢; exact hr
    rw [if_neg b] at hr ⊢
    exact hr
theorem jt_owed {ω : Nat → Int} {σ : Sg} (hI : Inv ω σ) (x y : Int) : Jt ω MX10_owed MX11_owed [iV x, iV y] lV cdN σ := by
  obtain ⟨N, hN⟩ := hI.1
  have hW := hN.2.2
  have h5 := hW.1.2.1
  by_cases h : 0 ≤ x ∧ x < N 2
  · by_cases g : 0 ≤ y ∧ y < N 2
    · obtain ⟨p, hp⟩ := z_nat h.1
      obtain ⟨q, hq⟩ := z_nat g.1
      subst hp
      subst hq
      refine Or.inl ⟨(oN N p q : Int), σ, ?_, ?_⟩
      · refine (eX10_owed (d := 2) ?_).mono (by decide)
        intro X Xr Xt hC hr
        refine bX10_owed_0 hC ?_
        refine Or.inl ⟨ctX10_needPerson (by decide) hN.1 h, Or.inl ⟨ctX10_needPerson (by decide) hN.1 g, _, ctX1_of (by decide) (by omega) (by omega), ?_⟩⟩
        rw [show σ (8 + 1) (5 * p + q) = (oN N p q : Int) by
          have := hN.1.2.1 (5 * p + q) (by omega)
          rw [← Nat.add_assoc] at this
          exact this]
        exact hr
      · intro τ ha
        have hM : RowM (upS τ 66 5 0) 67 0 N := RowM_ups (InvN_ag hN ha).2.1 (by decide)
        refine ⟨upS τ 66 5 0, ?_, ups_eq, Inv_fr hI (th_fr ha)⟩
        refine (eX11_owed (d := 2) ?_).mono (by decide)
        intro X Xr Xt hC hr
        refine bX11_owed_0 hC ?_
        refine ⟨_, ctX11_isPerson (by decide) h5 hM, ?_⟩
        rw [decide_eq_true h, if_neg (by decide)]
        refine ⟨_, ctX11_isPerson (by decide) h5 hM, ?_⟩
        rw [decide_eq_true g, if_neg (by decide)]
        exact ⟨_, ctX11_debt (by decide) (by omega) (by omega) hM, hr⟩
    · refine Or.inr ⟨1, σ, by decide, ?_, ?_⟩
      · refine (eX10_owed (d := 2) ?_).mono (by decide)
        intro X Xr Xt hC hr
        refine bX10_owed_0 hC ?_
        exact Or.inl ⟨ctX10_needPerson (by decide) hN.1 h, Or.inr ⟨_, ctX10_needPerson_no (by decide) hN.1 g, hr⟩⟩
      · intro τ ha
        have hM : RowM (upS τ 66 5 0) 67 0 N := RowM_ups (InvN_ag hN ha).2.1 (by decide)
        refine ⟨0, upS (upS τ 66 5 0) 66 5 1, ?_, ups_eq, Inv_fr hI ((th_fr ha).ups66 (by decide) (by decide) (by decide))⟩
        refine (eX11_owed (d := 2) ?_).mono (by decide)
        intro X Xr Xt hC hr
        refine bX11_owed_0 hC ?_
        refine ⟨_, ctX11_isPerson (by decide) h5 hM, ?_⟩
        rw [decide_eq_true h, if_neg (by decide)]
        refine ⟨_, ctX11_isPerson (by decide) h5 hM, ?_⟩
        rw [decide_eq_false g, if_pos (by decide)]
        exact ⟨_, _, ctX11_fails (by decide), hr⟩
  · refine Or.inr ⟨1, σ, by decide, ?_, ?_⟩
    · refine (eX10_owed (d := 2) ?_).mono (by decide)
      intro X Xr Xt hC hr
      refine bX10_owed_0 hC ?_
      exact Or.inr ⟨_, ctX10_needPerson_no (by decide) hN.1 h, hr⟩
    · intro τ ha
      have hM : RowM (upS τ 66 5 0) 67 0 N := RowM_ups (InvN_ag hN ha).2.1 (by decide)
      refine ⟨0, upS (upS τ 66 5 0) 66 5 1, ?_, ups_eq, Inv_fr hI ((th_fr ha).ups66 (by decide) (by decide) (by decide))⟩
      refine (eX11_owed (d := 2) ?_).mono (by decide)
      intro X Xr Xt hC hr
      refine bX11_owed_0 hC ?_
      refine ⟨_, ctX11_isPerson (by decide) h5 hM, ?_⟩
      rw [decide_eq_false h, if_pos (by decide)]
      exact ⟨_, _, ctX11_fails (by decide), hr⟩
theorem ctX10_needWhat {d : Nat} {x b : Int} (hd : 1 ≤ d) {σ : Sg} (h : 0 ≤ x ∧ x ≤ b) : Ct d MX10_needWhat [rV 19 0, iV x, iV b] σ (.inl []) σ := by
  refine (eX10_needWhat (d := 0) ?_).mono hd
  intro X Xr Xt hC hr
  refine bX10_needWhat_0 hC ?_
  rw [if_neg (by omega), if_neg (by omega)]
  exact hr
theorem ctX10_needWhat_no {d : Nat} {x b : Int} (hd : 1 ≤ d) {σ : Sg} (h : ¬ (0 ≤ x ∧ x ≤ b)) : Ct d MX10_needWhat [rV 19 0, iV x, iV b] σ (.inr 2) σ := by
  refine (eX10_needWhat (d := 0) ?_).mono hd
  intro X Xr Xt hC hr
  refine bX10_needWhat_0 hC ?_
  by_cases h0 : x < 0
  · rw [if_pos h0]; exact hr
  · rw [if_neg h0, if_pos (by omega)]; exact hr

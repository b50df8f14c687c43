/-! the mint, whole -/
theorem took_R {d k j : Nat} (hd : 6 ≤ d) (hk : k < 10) (hj : j < 5) {τ : Sg} {tx : Nat → Int} {n t : Nat} {N : Tn} (hn : n ≤ 700) (hkj : ∀ b e, isW k tx b e = isW j tx b e) (h : RP τ tx n t N) : ∃ τ1, Ct d MX11_took [rV 20 66, rV 30 (1000 + k)] τ (.inl [iV (b01 (decide (tK tx n t = 5 + j)))]) τ1 ∧ (tK tx n t = 5 + j → RP τ1 tx n (t + 1) N ∧ FrP τ τ1) ∧ (tK tx n t ≠ 5 + j → τ1 = τ) := by
  have hw := isWordR (d := 5) (by decide) hk hj hn hkj h.1 h.2.2
  by_cases q : tK tx n t = 5 + j
  · obtain ⟨τ1, c1, c2, c3⟩ := rp_reads (d := 5) (by decide) hn h
    refine ⟨τ1, (eX11_took (d := 5) ?_).mono hd, fun _ => ⟨c2, c3⟩, fun z => absurd q z⟩
    intro X Xr Xt hC hr
    refine bX11_took_0 hC ?_
    refine ⟨_, hw, ?_⟩
    rw [decide_eq_true q] at hr ⊢
    rw [if_neg (by decide)]
    exact ⟨_, c1, Or.inr rfl, hr⟩
  · refine ⟨τ, (eX11_took (d := 5) ?_).mono hd, fun z => absurd z q, fun _ => rfl⟩
    intro X Xr Xt hC hr
    refine bX11_took_0 hC ?_
    refine ⟨_, hw, ?_⟩
    rw [decide_eq_false q] at hr ⊢
    rw [if_pos (by decide)]
    exact ⟨Or.inl rfl, hr⟩
theorem must_R {d k j : Nat} (hd : 7 ≤ d) (hk : k < 10) (hj : j < 5) {τ : Sg} {tx : Nat → Int} {n t : Nat} {N : Tn} (hn : n ≤ 700) (hkj : ∀ b e, isW k tx b e = isW j tx b e) (h : RP τ tx n t N) : ∃ τ1, Ct d MX11_must [rV 20 66, rV 30 (1000 + k)] τ (.inl []) τ1 ∧ RQ τ τ1 tx n (if tK tx n t = 5 + j then .inl (N, t + 1) else stpO tx n t 2) := by
  obtain ⟨τ1, c1, c2, c3⟩ := took_R (d := 6) (by decide) hk hj hn hkj h
  by_cases q : tK tx n t = 5 + j
  · rw [if_pos q]
    refine ⟨τ1, (eX11_must (d := 6) ?_).mono hd, (c2 q).2, (c2 q).1⟩
    intro X Xr Xt hC hr
    refine bX11_must_0 hC ?_
    refine ⟨_, _, c1, ?_⟩
    rw [decide_eq_true q, if_neg (by decide)]
    exact hr
  · rw [if_neg q]
    have e := c3 q
    subst e
    obtain ⟨τ2, d1, d2⟩ := blames_RQ (d := 6) (k := 2) (by decide) (by decide) h.1 h.2.2
    refine ⟨τ2, (eX11_must (d := 6) ?_).mono hd, d2⟩
    intro X Xr Xt hC hr
    refine bX11_must_0 hC ?_
    refine ⟨_, _, c1, ?_⟩
    rw [decide_eq_false q, if_pos (by decide)]
    exact ⟨_, d1, hr⟩
theorem readPrime_R0 {d : Nat} (hd : 2 ≤ d) {τ : Sg} (h0 : τ 66 13 ≠ 0) : Ct d MX11_readPrime [rV 20 66] τ (.inl []) τ := by
  refine (eX11_readPrime (d := 1) ?_).mono hd
  intro X Xr Xt hC hr
  refine bX11_readPrime_0 hC ?_
  refine ⟨_, isNumber_R0 (by decide) h0, ?_⟩
  rw [if_pos rfl]
  exact ⟨_, blames_R0 (by decide) h0, hr⟩
theorem mint_pair {tx : Nat → Int} {n : Nat} (hn : n ≤ 700) : ∃ r : Po, (∀ σ, CP σ tx n 0 e0N → ∃ σ1, Ct 7 MX5_readMint [rV 14 1] σ (.inl [iV (flg (thE tx n r))]) σ1 ∧ CQ σ σ1 tx n (thE tx n r)) ∧ (∀ τ, RP τ tx n 0 e0N → ∃ τ1, Ct 8 MX11_readMint [rV 20 66] τ (.inl []) τ1 ∧ RQ τ τ1 tx n r) ∧ (∀ p, r = .inl p → WFP p.1 0 0 ∧ (p.1 0 = 0 ∧ p.1 2 = 0 ∧ p.1 3 = 0) ∧ 0 < p.1 1) := by
  have hm : ∀ τ, RP τ tx n 0 e0N → ∃ τ1, Ct 7 MX11_must [rV 20 66, rV 30 1005] τ (.inl []) τ1 ∧ RQ τ τ1 tx n (if tK tx n 0 = 5 + 0 then .inl (e0N, 0 + 1) else stpO tx n 0 2) := fun τ h => must_R (k := 5) (by decide) (by decide) (by decide) hn (fun b e => (isW_ref tx b e).1) h
  by_cases q : tK tx n 0 = 5
  · have hq : (tK tx n 0 : Int) = 5 := by rw [q]; rfl
    rw [if_pos q] at hm
    have up : ∀ σ, CP σ tx n 0 e0N → CP (upS σ 1 4 (w32 (σ 1 4 + 1))) tx n 1 e0N ∧ FcP σ (upS σ 1 4 (w32 (σ 1 4 + 1))) := by
      intro σ h
      have := cp_up (t2 := 1) (M := e0N) h
      rw [tnS_id h.2.1] at this
      rw [h.1.2]
      exact this
    by_cases q1 : tK tx n 1 = 2
    · have hq1 : (tK tx n 1 : Int) = 2 := by rw [q1]; rfl
      obtain ⟨r, rC, _, rR, rW⟩ := mint_loop (tx := tx) hn 8 0 1 e0N rfl (by decide) (by decide) wfp_e0
      refine ⟨r, ?_, ?_, fun p hp => ?_⟩
      · intro σ h
        obtain ⟨u1, u2⟩ := up σ h
        obtain ⟨σ1, c1, c2⟩ := rC _ u1
        refine ⟨σ1, eX5_readMint (d := 6) ?_, c2.after u2⟩
        intro X Xr Xt hC hr
        refine bX5_readMint_0 hC ?_
        refine ⟨_, isNext_C (by decide) 5 h.1, ?_⟩
        rw [decide_eq_true hq, if_neg (by decide)]
        refine ⟨_, isNext_C (by decide) 2 u1.1, ?_⟩
        rw [decide_eq_true hq1, if_neg (by decide)]
        exact c1 X Xr Xt hC hr
      · intro τ h
        obtain ⟨τ1, c1, c2⟩ := hm τ h
        obtain ⟨τ2, d1, d2⟩ := rR q1 τ1 c2.2
        refine ⟨τ2, eX11_readMint (d := 7) ?_, d2.after c2.1⟩
        intro X Xr Xt hC hr
        refine bX11_readMint_0 hC ?_
        exact ⟨_, c1, d1 X Xr Xt hC hr⟩
      · obtain ⟨y1, y2, _, y4⟩ := rW p hp
        exact ⟨y1, y2, y4 q1⟩
    · have hq1 : ¬ (tK tx n 1 : Int) = 2 := by omega
      refine ⟨stpO tx n 1 2, ?_, ?_, fun p hp => by unfold stpO at hp; exact absurd hp (by intro z; cases z)⟩
      · intro σ h
        obtain ⟨u1, u2⟩ := up σ h
        obtain ⟨σ1, c1, c2⟩ := stop_CQ (d := 6) (k := 2) (by decide) (by decide) u1.1
        refine ⟨σ1, eX5_readMint (d := 6) ?_, c2.after u2⟩
        intro X Xr Xt hC hr
        refine bX5_readMint_0 hC ?_
        refine ⟨_, isNext_C (by decide) 5 h.1, ?_⟩
        rw [decide_eq_true hq, if_neg (by decide)]
        refine ⟨_, isNext_C (by decide) 2 u1.1, ?_⟩
        rw [decide_eq_false hq1, if_pos (by decide)]
        exact ⟨_, _, c1, Or.inl rfl, hr⟩
      · intro τ h
        obtain ⟨τ1, c1, c2⟩ := hm τ h
        obtain ⟨τ2, d1, d2⟩ := readPrime_R (d := 7) (by decide) hn (by decide) c2.2
        have eo : prO tx n 1 e0N = stpO tx n 1 2 := if_neg q1
        rw [show 0 + 1 = 1 from rfl, eo] at d2
        have hb : τ2 66 13 ≠ 0 := by rw [d2.2.2.1]; exact d2.2.1
        refine ⟨τ2, eX11_readMint (d := 7) ?_, d2.after c2.1⟩
        intro X Xr Xt hC hr
        refine bX11_readMint_0 hC ?_
        refine ⟨_, c1, _, d1, ?_⟩
        refine bX11_readMint_10 hC ?_
        refine ⟨_, isNumber_R0 (by decide) hb, ?_⟩
        rw [if_pos rfl]
        exact hr
  · have hq : ¬ (tK tx n 0 : Int) = 5 := by omega
    rw [if_neg q] at hm
    refine ⟨stpO tx n 0 2, ?_, ?_, fun p hp => by unfold stpO at hp; exact absurd hp (by intro z; cases z)⟩
    · intro σ h
      obtain ⟨σ1, c1, c2⟩ := stop_CQ (d := 6) (k := 2) (by decide) (by decide) h.1
      refine ⟨σ1, eX5_readMint (d := 6) ?_, c2⟩
      intro X Xr Xt hC hr
      refine bX5_readMint_0 hC ?_
      refine ⟨_, isNext_C (by decide) 5 h.1, ?_⟩
      rw [decide_eq_false hq, if_pos (by decide)]
      exact ⟨_, _, c1, Or.inl rfl, hr⟩
    · intro τ h
      obtain ⟨τ1, c1, c2⟩ := hm τ h
      have hb : τ1 66 13 ≠ 0 := by rw [c2.2.2.1]; exact c2.2.1
      refine ⟨τ1, eX11_readMint (d := 7) ?_, c2⟩
      intro X Xr Xt hC hr
      refine bX11_readMint_0 hC ?_
      refine ⟨_, c1, _, readPrime_R0 (by decide) hb, ?_⟩
      refine bX11_readMint_10 hC ?_
      refine ⟨_, isNumber_R0 (by decide) hb, ?_⟩
      rw [if_pos rfl]
      exact hr

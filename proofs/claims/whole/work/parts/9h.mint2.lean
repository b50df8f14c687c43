/-! the mint's line on both sides -/
def thE (tx : Nat → Int) (n : Nat) : Po → Po
  | .inl p => eoN tx n p.2 p.1
  | .inr p => .inr p
theorem flg_01 (o : Po) : flg o = 0 ∨ flg o = 1 := by
  cases o with
  | inl p => exact Or.inr rfl
  | inr p => exact Or.inl rfl
def MC (tx : Nat → Int) (n : Nat) (o : Po) (i t : Nat) (N : Tn) : Prop := ∀ σ, CP σ tx n t N → ∃ σ1, (∀ (X : Nat → List Vv → List Vv → Sg → Prop) (Xr : List Vv → Sg → Prop) (Xt : Nat → Sg → Prop), Clo (Ct 6) 5 cX5_readMint (some .boolean) X Xr Xt → Xr [iV (flg o)] σ1 → X 40 [rV 14 1, iV (i : Int), uV] [] σ) ∧ CQ σ σ1 tx n o
def MR (tx : Nat → Int) (n : Nat) (r : Po) (t : Nat) (N : Tn) : Prop := ∀ τ, RP τ tx n t N → ∃ τ1, (∀ (X : Nat → List Vv → List Vv → Sg → Prop) (Xr : List Vv → Sg → Prop) (Xt : Nat → Sg → Prop), Clo (Ct 7) 11 cX11_readMint none X Xr Xt → Xr [] τ1 → X 10 [rV 20 66] [] τ) ∧ RQ τ τ1 tx n r
def MR2 (tx : Nat → Int) (n : Nat) (r : Po) (t : Nat) (N : Tn) : Prop := ∀ τ, RP τ tx n t N → ∃ τ1, (∀ (X : Nat → List Vv → List Vv → Sg → Prop) (Xr : List Vv → Sg → Prop) (Xt : Nat → Sg → Prop), Clo (Ct 7) 11 cX11_readMint none X Xr Xt → Xr [] τ1 → ∃ σ2 : Sg, Ct 7 MX11_readPrime [rV 20 66] τ (.inl []) σ2 ∧ X 10 [rV 20 66] [] σ2) ∧ RQ τ τ1 tx n r
theorem mr_of {tx : Nat → Int} {n t : Nat} {r : Po} {N : Tn} (q : tK tx n t = 2) (h : MR2 tx n r t N) : MR tx n r t N := by
  intro τ hp
  obtain ⟨τ1, c1, c2⟩ := h τ hp
  refine ⟨τ1, ?_, c2⟩
  intro X Xr Xt hC hr
  refine bX11_readMint_10 hC ?_
  refine ⟨_, isNumber_R (by decide) hp.1 hp.2.2, ?_⟩
  rw [decide_eq_true q, if_neg (by decide)]
  exact c1 X Xr Xt hC hr
theorem cp_num {d t : Nat} {x : Int} {n : Nat} {tx : Nat → Int} {N : Tn} (hd : 1 ≤ d) (h8 : N 1 ≤ 8) {σ : Sg} (h : CP σ tx n t N) : Ct d MX8_numberOf [rV 17 14, iV x] σ (.inl [iV (nrN N x)]) σ := ctX8_numberOf hd h8 (h.2.1.1 1 (by decide)) h.2.1.2.2.1
theorem mint_loop {tx : Nat → Int} {n : Nat} (hn : n ≤ 700) : ∀ (g i t : Nat) (N : Tn), N 1 + g = 8 → i + g ≤ 600 → t + g ≤ 90000 → WFP N 0 0 → ∃ r : Po, MC tx n (thE tx n r) i t N ∧ MR tx n r t N ∧ (tK tx n t = 2 → MR2 tx n r t N) ∧ (∀ p, r = .inl p → WFP p.1 0 0 ∧ (p.1 0 = N 0 ∧ p.1 2 = N 2 ∧ p.1 3 = N 3) ∧ N 1 ≤ p.1 1 ∧ (tK tx n t = 2 → N 1 < p.1 1)) := by
  intro g
  induction g with
  | zero =>
    intro i t N hg hi ht hW
    have h0 := (wfp_1 hW).2.2.2.1
    have h8 := (wfp_1 hW).1
    have hi7 : (i : Int) < 700 := by omega
    by_cases q : tK tx n t = 2
    · have hq2 : (tK tx n t : Int) = 2 := by rw [q]; rfl
      obtain ⟨v0, v1⟩ := tV_b q
      -- a fault
      have bad : ∀ k : Int, k ≠ 0 → prO tx n t N = stpO tx n t k → (∀ σ, CP σ tx n t N → ∀ (X : Nat → List Vv → List Vv → Sg → Prop) (Xr : List Vv → Sg → Prop) (Xt : Nat → Sg → Prop), Clo (Ct 6) 5 cX5_readMint (some .boolean) X Xr Xt → (∃ (v : Int) (σ5 : Sg), Ct 6 MX5_stop [rV 14 1, iV k] σ (.inl [iV v]) σ5 ∧ ((v = 0 ∨ v = 1) ∧ Xr [iV v] σ5)) → X 40 [rV 14 1, iV (i : Int), uV] [] σ) → ∃ r : Po, MC tx n (thE tx n r) i t N ∧ MR tx n r t N ∧ (tK tx n t = 2 → MR2 tx n r t N) ∧ (∀ p, r = .inl p → WFP p.1 0 0 ∧ (p.1 0 = N 0 ∧ p.1 2 = N 2 ∧ p.1 3 = N 3) ∧ N 1 ≤ p.1 1 ∧ (tK tx n t = 2 → N 1 < p.1 1)) := by
        intro k hk hpr hcl
        have m2 : MR2 tx n (stpO tx n t k) t N := by
          intro τ h
          obtain ⟨τ1, c1, c2⟩ := readPrime_R (d := 7) (by decide) hn h8 h
          rw [hpr] at c2
          have hb : τ1 66 13 ≠ 0 := by rw [c2.2.2.1]; exact c2.2.1
          refine ⟨τ1, ?_, c2⟩
          intro X Xr Xt hC hr
          refine ⟨_, c1, ?_⟩
          refine bX11_readMint_10 hC ?_
          refine ⟨_, isNumber_R0 (by decide) hb, ?_⟩
          rw [if_pos rfl]
          exact hr
        refine ⟨stpO tx n t k, ?_, mr_of q m2, fun _ => m2, fun p hp => by unfold stpO at hp; exact absurd hp (by intro z; cases z)⟩
        · intro σ h
          obtain ⟨σ1, c1, c2⟩ := stop_CQ (d := 6) (k := k) (by decide) hk h.1
          refine ⟨σ1, ?_, c2⟩
          intro X Xr Xt hC hr
          exact hcl σ h X Xr Xt hC ⟨_, _, c1, Or.inl rfl, hr⟩
      have cl : ∀ σ, CP σ tx n t N → ∀ (X : Nat → List Vv → List Vv → Sg → Prop) (Xr : List Vv → Sg → Prop) (Xt : Nat → Sg → Prop), Clo (Ct 6) 5 cX5_readMint (some .boolean) X Xr Xt → (if smallP (tV tx n t) = true ∧ nrN N (tV tx n t) = -1 then (if N 1 = 8 then (∃ (v : Int) (σ5 : Sg), Ct 6 MX5_stop [rV 14 1, iV 4] σ (.inl [iV v]) σ5 ∧ ((v = 0 ∨ v = 1) ∧ Xr [iV v] σ5)) else (∃ σ8 : Sg, Ct 6 MX8_addCoin [rV 17 14, iV (tV tx n t)] σ (.inl []) σ8 ∧ X 40 [rV 14 1, iV ((i + 1 : Nat) : Int), uV] [] (upS σ8 1 4 (w32 (σ8 1 4 + 1))))) else (∃ (v : Int) (σ5 : Sg), Ct 6 MX5_stop [rV 14 1, iV 3] σ (.inl [iV v]) σ5 ∧ ((v = 0 ∨ v = 1) ∧ Xr [iV v] σ5))) → X 40 [rV 14 1, iV (i : Int), uV] [] σ := by
        intro σ h X Xr Xt hC hx
        have a1 : σ 14 1 = (N 1 : Int) := h.2.1.1 1 (by decide)
        refine bX5_readMint_40 hC ?_
        rw [if_pos hi7]
        refine ⟨_, isNext_C (by decide) 2 h.1, ?_⟩
        rw [decide_eq_true hq2, if_neg (by decide), h.1.2]
        refine ⟨_, valueOf_C (by decide) h.1.1 q, _, ctX3_isSmallPrime (by decide), ?_⟩
        cases p : smallP (tV tx n t) with
        | false =>
          rw [if_neg (by rw [p]; exact fun z => Bool.noConfusion z.1)] at hx
          rw [if_pos (by decide)]
          exact hx
        | true =>
          rw [if_neg (by decide)]
          refine ⟨_, cp_num (by decide) h8 h, ?_⟩
          by_cases y : nrN N (tV tx n t) = -1
          · rw [if_pos ⟨p, y⟩] at hx
            rw [if_pos y, a1, w32_s (show i < 2147483647 by omega)]
            by_cases z : N 1 = 8
            · rw [if_pos z] at hx
              rw [if_pos (by omega)]
              exact hx
            · rw [if_neg z] at hx
              rw [if_neg (by omega)]
              exact hx
          · rw [if_neg (fun z => y z.2)] at hx
            rw [if_neg y]
            exact hx
      by_cases p : smallP (tV tx n t) = true ∧ nrN N (tV tx n t) = -1
      · by_cases z : N 1 = 8
        · refine bad 4 (by decide) (by unfold prO; rw [if_pos q, if_pos p, if_pos z]) ?_
          intro σ h X Xr Xt hC hx
          refine cl σ h X Xr Xt hC ?_
          rw [if_pos p, if_pos z]
          exact hx
        · exact absurd hg (by omega)
      · refine bad 3 (by decide) (by unfold prO; rw [if_pos q, if_neg p]) ?_
        intro σ h X Xr Xt hC hx
        refine cl σ h X Xr Xt hC ?_
        rw [if_neg p]
        exact hx
    · have hq2 : ¬ (tK tx n t : Int) = 2 := by omega
      refine ⟨.inl (N, t), ?_, ?_, fun z => absurd z q, fun p hp => by cases hp; exact ⟨hW, ⟨rfl, rfl, rfl⟩, Nat.le_refl _, fun z => absurd z q⟩⟩
      · intro σ h
        obtain ⟨σ1, c1, c2⟩ := endLine_C (d := 6) (by decide) (show t < 100000 by omega) h0 h
        refine ⟨σ1, ?_, c2⟩
        intro X Xr Xt hC hr
        refine bX5_readMint_40 hC ?_
        rw [if_pos hi7]
        refine ⟨_, isNext_C (by decide) 2 h.1, ?_⟩
        rw [decide_eq_false hq2, if_pos (by decide)]
        exact ⟨_, _, c1, flg_01 _, hr⟩
      · intro τ h
        refine ⟨τ, ?_, FrP.refl τ, h⟩
        intro X Xr Xt hC hr
        refine bX11_readMint_10 hC ?_
        refine ⟨_, isNumber_R (by decide) h.1 h.2.2, ?_⟩
        rw [decide_eq_false q, if_pos (by decide)]
        exact hr
  | succ g ih =>
    intro i t N hg hi ht hW
    have h0 := (wfp_1 hW).2.2.2.1
    have h8 := (wfp_1 hW).1
    have hi7 : (i : Int) < 700 := by omega
    by_cases q : tK tx n t = 2
    · have hq2 : (tK tx n t : Int) = 2 := by rw [q]; rfl
      obtain ⟨v0, v1⟩ := tV_b q
      -- a fault
      have bad : ∀ k : Int, k ≠ 0 → prO tx n t N = stpO tx n t k → (∀ σ, CP σ tx n t N → ∀ (X : Nat → List Vv → List Vv → Sg → Prop) (Xr : List Vv → Sg → Prop) (Xt : Nat → Sg → Prop), Clo (Ct 6) 5 cX5_readMint (some .boolean) X Xr Xt → (∃ (v : Int) (σ5 : Sg), Ct 6 MX5_stop [rV 14 1, iV k] σ (.inl [iV v]) σ5 ∧ ((v = 0 ∨ v = 1) ∧ Xr [iV v] σ5)) → X 40 [rV 14 1, iV (i : Int), uV] [] σ) → ∃ r : Po, MC tx n (thE tx n r) i t N ∧ MR tx n r t N ∧ (tK tx n t = 2 → MR2 tx n r t N) ∧ (∀ p, r = .inl p → WFP p.1 0 0 ∧ (p.1 0 = N 0 ∧ p.1 2 = N 2 ∧ p.1 3 = N 3) ∧ N 1 ≤ p.1 1 ∧ (tK tx n t = 2 → N 1 < p.1 1)) := by
        intro k hk hpr hcl
        have m2 : MR2 tx n (stpO tx n t k) t N := by
          intro τ h
          obtain ⟨τ1, c1, c2⟩ := readPrime_R (d := 7) (by decide) hn h8 h
          rw [hpr] at c2
          have hb : τ1 66 13 ≠ 0 := by rw [c2.2.2.1]; exact c2.2.1
          refine ⟨τ1, ?_, c2⟩
          intro X Xr Xt hC hr
          refine ⟨_, c1, ?_⟩
          refine bX11_readMint_10 hC ?_
          refine ⟨_, isNumber_R0 (by decide) hb, ?_⟩
          rw [if_pos rfl]
          exact hr
        refine ⟨stpO tx n t k, ?_, mr_of q m2, fun _ => m2, fun p hp => by unfold stpO at hp; exact absurd hp (by intro z; cases z)⟩
        · intro σ h
          obtain ⟨σ1, c1, c2⟩ := stop_CQ (d := 6) (k := k) (by decide) hk h.1
          refine ⟨σ1, ?_, c2⟩
          intro X Xr Xt hC hr
          exact hcl σ h X Xr Xt hC ⟨_, _, c1, Or.inl rfl, hr⟩
      have cl : ∀ σ, CP σ tx n t N → ∀ (X : Nat → List Vv → List Vv → Sg → Prop) (Xr : List Vv → Sg → Prop) (Xt : Nat → Sg → Prop), Clo (Ct 6) 5 cX5_readMint (some .boolean) X Xr Xt → (if smallP (tV tx n t) = true ∧ nrN N (tV tx n t) = -1 then (if N 1 = 8 then (∃ (v : Int) (σ5 : Sg), Ct 6 MX5_stop [rV 14 1, iV 4] σ (.inl [iV v]) σ5 ∧ ((v = 0 ∨ v = 1) ∧ Xr [iV v] σ5)) else (∃ σ8 : Sg, Ct 6 MX8_addCoin [rV 17 14, iV (tV tx n t)] σ (.inl []) σ8 ∧ X 40 [rV 14 1, iV ((i + 1 : Nat) : Int), uV] [] (upS σ8 1 4 (w32 (σ8 1 4 + 1))))) else (∃ (v : Int) (σ5 : Sg), Ct 6 MX5_stop [rV 14 1, iV 3] σ (.inl [iV v]) σ5 ∧ ((v = 0 ∨ v = 1) ∧ Xr [iV v] σ5))) → X 40 [rV 14 1, iV (i : Int), uV] [] σ := by
        intro σ h X Xr Xt hC hx
        have a1 : σ 14 1 = (N 1 : Int) := h.2.1.1 1 (by decide)
        refine bX5_readMint_40 hC ?_
        rw [if_pos hi7]
        refine ⟨_, isNext_C (by decide) 2 h.1, ?_⟩
        rw [decide_eq_true hq2, if_neg (by decide), h.1.2]
        refine ⟨_, valueOf_C (by decide) h.1.1 q, _, ctX3_isSmallPrime (by decide), ?_⟩
        cases p : smallP (tV tx n t) with
        | false =>
          rw [if_neg (by rw [p]; exact fun z => Bool.noConfusion z.1)] at hx
          rw [if_pos (by decide)]
          exact hx
        | true =>
          rw [if_neg (by decide)]
          refine ⟨_, cp_num (by decide) h8 h, ?_⟩
          by_cases y : nrN N (tV tx n t) = -1
          · rw [if_pos ⟨p, y⟩] at hx
            rw [if_pos y, a1, w32_s (show i < 2147483647 by omega)]
            by_cases z : N 1 = 8
            · rw [if_pos z] at hx
              rw [if_pos (by omega)]
              exact hx
            · rw [if_neg z] at hx
              rw [if_neg (by omega)]
              exact hx
          · rw [if_neg (fun z => y z.2)] at hx
            rw [if_neg y]
            exact hx
      by_cases p : smallP (tV tx n t) = true ∧ nrN N (tV tx n t) = -1
      · by_cases z : N 1 = 8
        · refine bad 4 (by decide) (by unfold prO; rw [if_pos q, if_pos p, if_pos z]) ?_
          intro σ h X Xr Xt hC hx
          refine cl σ h X Xr Xt hC ?_
          rw [if_pos p, if_pos z]
          exact hx
        · obtain ⟨v, hv⟩ := z_nat v0
          have eo : prO tx n t N = .inl (prN N (tV tx n t), t + 1) := by unfold prO; rw [if_pos q, if_pos p, if_neg z]
          have hW2 : WFP (prN N (tV tx n t)) 0 0 := by
            rw [hv] at p ⊢
            exact wfp_pr hW (by omega) p.1 p.2
          obtain ⟨r, rC, rR, _, rW⟩ := ih (i + 1) (t + 1) (prN N (tV tx n t)) (by rw [prN_1]; omega) (by omega) (by omega) hW2
          have m2 : MR2 tx n r t N := by
            intro τ h
            obtain ⟨τ1, c1, c2⟩ := readPrime_R (d := 7) (by decide) hn h8 h
            rw [eo] at c2
            obtain ⟨τ2, d1, d2⟩ := rR τ1 c2.2
            refine ⟨τ2, ?_, d2.after c2.1⟩
            intro X Xr Xt hC hr
            exact ⟨_, c1, d1 X Xr Xt hC hr⟩
          refine ⟨r, ?_, mr_of q m2, fun _ => m2, fun y hy => ?_⟩
          · intro σ h
            obtain ⟨c1, c2⟩ := cp_up (t2 := t + 1) (M := prN N (tV tx n t)) h
            obtain ⟨σ1, d1, d2⟩ := rC _ c1
            refine ⟨σ1, ?_, d2.after c2⟩
            intro X Xr Xt hC hr
            refine cl σ h X Xr Xt hC ?_
            rw [if_pos p, if_neg z]
            have ac : Ct 6 MX8_addCoin [rV 17 14, iV (tV tx n t)] σ (.inl []) (tnS σ 14 (prN N (tV tx n t))) := by
              have := addCoin_C (d := 6) (t := 14) (v := v) (N := N) (σ := σ) (by decide) (by omega)
              rw [tnS_id h.2.1] at this
              unfold prN
              rw [hv, Int.toNat_natCast]
              exact this
            refine ⟨_, ac, ?_⟩
            have e4 : tnS σ 14 (prN N (tV tx n t)) 1 4 = (t : Int) := by rw [tnS_cell (by decide)]; exact h.1.2
            rw [e4, w32_s (show t < 2147483647 by omega)]
            exact d1 X Xr Xt hC hr
          · obtain ⟨y1, y2, y3, _⟩ := rW y hy
            rw [prN_0, prN_2, prN_3] at y2
            rw [prN_1] at y3
            exact ⟨y1, y2, by omega, fun _ => by omega⟩
      · refine bad 3 (by decide) (by unfold prO; rw [if_pos q, if_neg p]) ?_
        intro σ h X Xr Xt hC hx
        refine cl σ h X Xr Xt hC ?_
        rw [if_neg p]
        exact hx
    · have hq2 : ¬ (tK tx n t : Int) = 2 := by omega
      refine ⟨.inl (N, t), ?_, ?_, fun z => absurd z q, fun p hp => by cases hp; exact ⟨hW, ⟨rfl, rfl, rfl⟩, Nat.le_refl _, fun z => absurd z q⟩⟩
      · intro σ h
        obtain ⟨σ1, c1, c2⟩ := endLine_C (d := 6) (by decide) (show t < 100000 by omega) h0 h
        refine ⟨σ1, ?_, c2⟩
        intro X Xr Xt hC hr
        refine bX5_readMint_40 hC ?_
        rw [if_pos hi7]
        refine ⟨_, isNext_C (by decide) 2 h.1, ?_⟩
        rw [decide_eq_false hq2, if_pos (by decide)]
        exact ⟨_, _, c1, flg_01 _, hr⟩
      · intro τ h
        refine ⟨τ, ?_, FrP.refl τ, h⟩
        intro X Xr Xt hC hr
        refine bX11_readMint_10 hC ?_
        refine ⟨_, isNumber_R (by decide) h.1 h.2.2, ?_⟩
        rw [decide_eq_false q, if_pos (by decide)]
        exact hr

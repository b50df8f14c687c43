/-! a change's line on both sides -/
theorem wfp_sz {N : Tn} {P K k s c : Nat} (h : WFP N P K) (hk : k < 6) (hs : s < 2) (hc : c < 8) (z : K ≤ k) : sN N k s c = 0 := by
  have := h.2.2.2.2.2.2.1 k s c hk hs hc (Or.inl (by rw [upd2_3]; exact z))
  rw [wfp_sN] at this
  exact this
theorem w52 {k : Nat} (h : k < 100) : w32 (52 + w32 (16 * (k : Int))) = ((52 + 16 * k + 8 * 0 : Nat) : Int) ∧ w32 (((52 + 16 * k + 8 * 0 : Nat) : Int) + 8) = ((52 + 16 * k + 8 * 1 : Nat) : Int) := by unfold w32; omega
theorem change_pair {tx : Nat → Int} {n t : Nat} {N : Tn} (hn : n ≤ 700) (q : tK tx n t = 8) (h1 : 0 < N 1) (h0 : N 0 ≤ 1000) (hW : WFP N (N 2) (N 3)) : ∃ r : Po, (∀ σ, CP σ tx n t N → ∃ σ1, Ct 9 MX5_readChange [rV 14 1] σ (.inl [iV (flg (thE tx n r))]) σ1 ∧ CQ σ σ1 tx n (thE tx n r)) ∧ (∀ τ, RP τ tx n t N → ∃ τ1, Ct 9 MX11_readChange [rV 20 66] τ (.inl []) τ1 ∧ RQ τ τ1 tx n r) ∧ (∀ p, r = .inl p → WFP p.1 (p.1 2) (p.1 3) ∧ p.1 0 = N 0 ∧ 0 < p.1 1 ∧ t < p.2) := by
  have htn := tK_lt (tx := tx) (n := n) (t := t) (by omega)
  have h5 := (wfp_1 hW).2.1
  have h6 := (wfp_1 hW).2.2.1
  have hP1 := (wfp_1 hW).2.2.2.2
  by_cases f : N 3 = 6
  · refine ⟨stpO tx n t 4, ?_, ?_, fun p hp => by unfold stpO at hp; cases hp⟩
    · intro σ h
      have a3 : σ 14 3 = (N 3 : Int) := h.2.1.1 3 (by decide)
      obtain ⟨σ1, c1, c2⟩ := stop_CQ (d := 8) (k := 4) (by decide) (by decide) h.1
      refine ⟨σ1, eX5_readChange (d := 8) ?_, c2⟩
      intro X Xr Xt hC hr
      refine bX5_readChange_0 hC ?_
      rw [a3, if_pos (by omega)]
      exact ⟨_, _, c1, Or.inl rfl, hr⟩
    · intro τ h
      have a3 : τ 68 3 = (N 3 : Int) := h.2.1 3 (by decide)
      have hb : blS τ tx n t 4 66 13 ≠ 0 := blS_bad (by decide)
      refine ⟨_, eX11_readChange (d := 8) ?_, blS_RQ (k := 4) (by decide)⟩
      intro X Xr Xt hC hr
      refine bX11_readChange_0 hC ?_
      rw [a3, if_pos (by omega)]
      refine ⟨_, blames_R (by decide) h.1 h.2.2, ?_⟩
      rw [if_neg hb]
      exact hr
  have hK : N 3 < 6 := by omega
  have hW1 : WFP N (N 2) (N 3 + 1) := wfp_23 hW (Nat.le_refl _) (by omega) h5 (by omega) hP1
  obtain ⟨r1, aC, aR, aW⟩ := side_pair (tx := tx) (t := t + 1) (s := 0) hn (by decide) (fun c hc => wfp_sz hW hK (by decide) hc (Nat.le_refl _)) hW1
  have up : ∀ (σ : Sg) (u : Nat) (M : Tn), u < 100000 → CP σ tx n u M → CP (upS σ 1 4 (w32 (σ 1 4 + 1))) tx n (u + 1) M ∧ FcP σ (upS σ 1 4 (w32 (σ 1 4 + 1))) := by
    intro σ u M hu h
    have := cp_up (t2 := u + 1) (M := M) h
    rw [tnS_id h.2.1] at this
    rw [h.1.2, w32_s (show u < 2147483647 by omega)]
    exact this
  -- the class's beginning
  have cl : ∀ σ, CP σ tx n t N → ∀ (X : Nat → List Vv → List Vv → Sg → Prop) (Xr : List Vv → Sg → Prop) (Xt : Nat → Sg → Prop), Clo (Ct 8) 5 cX5_readChange (some .boolean) X Xr Xt → (∃ (v2 : Int) (σ2 : Sg), Ct 8 MX5_readSide [rV 14 1, iV 0] (upS σ 1 4 (w32 (σ 1 4 + 1))) (.inl [iV v2]) σ2 ∧ (if v2 = 0 then (Xr [iV 0] σ2) else (∃ v3 : Int, Ct 8 MX5_isNext [rV 14 1, iV 9] σ2 (.inl [iV v3]) σ2 ∧ (if v3 = 0 then (∃ (v4 : Int) (σ4 : Sg), Ct 8 MX5_stop [rV 14 1, iV 2] σ2 (.inl [iV v4]) σ4 ∧ ((v4 = 0 ∨ v4 = 1) ∧ Xr [iV v4] σ4)) else (∃ (v5 : Int) (σ5 : Sg), Ct 8 MX5_readSide [rV 14 1, iV 1] (upS σ2 1 4 (w32 (σ2 1 4 + 1))) (.inl [iV v5]) σ5 ∧ (if v5 = 0 then (Xr [iV 0] σ5) else (∃ (v6 : Int) (σ6 : Sg), Ct 8 MX5_endLine [rV 14 1] σ5 (.inl [iV v6]) σ6 ∧ (if v6 = 0 then (Xr [iV 0] σ6) else (Xr [iV 1] (upS σ6 14 3 (w32 (σ6 14 3 + 1)))))))))))) → X 0 [rV 14 1] [] σ := by
    intro σ h X Xr Xt hC hx
    have a3 : σ 14 3 = (N 3 : Int) := h.2.1.1 3 (by decide)
    refine bX5_readChange_0 hC ?_
    rw [a3, if_neg (by omega)]
    exact hx
  -- the reference's
  have re : ∀ τ, RP τ tx n t N → ∀ τ1, Ct 8 MX11_reads [rV 20 66] τ (.inl []) τ1 → RP τ1 tx n (t + 1) N → ∀ (X : Nat → List Vv → List Vv → Sg → Prop) (Xr : List Vv → Sg → Prop) (Xt : Nat → Sg → Prop), Clo (Ct 8) 11 cX11_readChange none X Xr Xt → (∃ σ7 : Sg, Ct 8 MX11_readSide [rV 20 66, iV ((52 + 16 * N 3 + 8 * 0 : Nat) : Int)] τ1 (.inl []) σ7 ∧ (∃ σ8 : Sg, Ct 8 MX11_must [rV 20 66, rV 30 1007] σ7 (.inl []) σ8 ∧ (if σ8 66 13 = 0 then (∃ σ9 : Sg, Ct 8 MX11_readSide [rV 20 66, iV ((52 + 16 * N 3 + 8 * 1 : Nat) : Int)] σ8 (.inl []) σ9 ∧ (if σ9 66 13 = 0 then (Xr [] (upS σ9 68 3 (w32 (σ9 68 3 + 1)))) else (Xr [] σ9))) else (Xr [] σ8)))) → X 0 [rV 20 66, uV] [] τ := by
    intro τ h τ1 c1 c2 X Xr Xt hC hx
    have a3 : τ 68 3 = (N 3 : Int) := h.2.1 3 (by decide)
    have b3 : τ1 68 3 = (N 3 : Int) := c2.2.1 3 (by decide)
    have hk : N 3 < 100 := by omega
    refine bX11_readChange_0 hC ?_
    rw [a3]
    rw [if_neg (by omega), if_pos h.2.2]
    refine ⟨_, c1, ?_⟩
    rw [b3, (w52 hk).1, (w52 hk).2]
    obtain ⟨σ7, x1, σ8, x2, hx⟩ := hx
    refine ⟨σ7, x1, σ8, x2, ?_⟩
    by_cases g : σ8 66 13 = 0
    · rw [if_pos g] at hx ⊢
      exact hx
    · rw [if_neg g] at hx ⊢
      rw [if_neg g]
      exact hx
  have mu0 : ∀ ρ : Sg, ρ 66 13 ≠ 0 → Ct 8 MX11_must [rV 20 66, rV 30 1007] ρ (.inl []) ρ := by
    intro ρ hb
    have tk : Ct 7 MX11_took [rV 20 66, rV 30 1007] ρ (.inl [iV 0]) ρ := by
      refine eX11_took (d := 6) ?_
      intro X Xr Xt hC hr
      refine bX11_took_0 hC ?_
      refine ⟨_, isWordR0 (d := 6) (k := 7) (by decide) hb, ?_⟩
      rw [if_pos rfl]
      exact ⟨Or.inl rfl, hr⟩
    refine eX11_must (d := 7) ?_
    intro X Xr Xt hC hr
    refine bX11_must_0 hC ?_
    refine ⟨_, _, tk, ?_⟩
    rw [if_pos rfl]
    exact ⟨_, blames_R0 (by decide) hb, hr⟩
  cases hr1 : r1 with
  | inr e =>
    rw [hr1] at aC aR
    refine ⟨.inr e, ?_, ?_, fun p hp => by cases hp⟩
    · intro σ h
      obtain ⟨u1, u2⟩ := up σ t N (by omega) h
      obtain ⟨σ1, c1, c2⟩ := aC _ u1
      refine ⟨σ1, eX5_readChange (d := 8) ?_, c2.after u2⟩
      intro X Xr Xt hC hr
      refine cl σ h X Xr Xt hC ⟨_, _, c1, ?_⟩
      rw [if_pos (show flg (.inr e) = 0 from rfl)]
      exact hr
    · intro τ h
      obtain ⟨τ1, c1, c2, c3⟩ := rp_reads (d := 8) (by decide) hn h
      obtain ⟨τ2, d1, d2⟩ := aR _ c2
      have hb : τ2 66 13 ≠ 0 := by rw [d2.2.2.1]; exact d2.2.1
      refine ⟨τ2, eX11_readChange (d := 8) ?_, d2.after c3⟩
      intro X Xr Xt hC hr
      refine re τ h τ1 c1 c2 X Xr Xt hC ⟨_, d1, _, mu0 τ2 hb, ?_⟩
      rw [if_neg hb]
      exact hr
  | inl p1 =>
    rw [hr1] at aC aR
    obtain ⟨w1, w2, w3, w4⟩ := aW p1 hr1
    have m0 : p1.1 0 = N 0 := w2 0 (by omega)
    have m1 : p1.1 1 = N 1 := w2 1 (by omega)
    have m2 : p1.1 2 = N 2 := w2 2 (by omega)
    have m3 : p1.1 3 = N 3 := w2 3 (by omega)
    have hmu : ∀ ρ, RP ρ tx n p1.2 p1.1 → ∃ ρ1, Ct 8 MX11_must [rV 20 66, rV 30 1007] ρ (.inl []) ρ1 ∧ RQ ρ ρ1 tx n (if tK tx n p1.2 = 5 + 4 then .inl (p1.1, p1.2 + 1) else stpO tx n p1.2 2) := fun ρ h => must_R (k := 7) (j := 4) (by decide) (by decide) (by decide) hn (fun b e => (isW_ref tx b e).2.2.1) h
    by_cases g : tK tx n p1.2 = 9
    · have hu := tK_lt (tx := tx) (n := n) (t := p1.2) (by omega)
      rw [if_pos g] at hmu
      obtain ⟨r2, bC, bR, bW⟩ := side_pair (tx := tx) (t := p1.2 + 1) (s := 1) (P := N 2) (N := p1.1) hn (by decide) (fun c hc => by
        show p1.1 (52 + 16 * p1.1 3 + 8 * 1 + c) = 0
        rw [m3, w2 _ (by omega)]
        exact wfp_sz (s := 1) hW hK (by decide) hc (Nat.le_refl _)) (by rw [m3]; exact w1)
      rw [m3] at bR
      have cl2 : ∀ σ, CP σ tx n t N → ∃ σ3, CP σ3 tx n (p1.2 + 1) p1.1 ∧ FcP σ σ3 ∧ ∀ (X : Nat → List Vv → List Vv → Sg → Prop) (Xr : List Vv → Sg → Prop) (Xt : Nat → Sg → Prop), Clo (Ct 8) 5 cX5_readChange (some .boolean) X Xr Xt → (∃ (v5 : Int) (σ5 : Sg), Ct 8 MX5_readSide [rV 14 1, iV 1] σ3 (.inl [iV v5]) σ5 ∧ (if v5 = 0 then (Xr [iV 0] σ5) else (∃ (v6 : Int) (σ6 : Sg), Ct 8 MX5_endLine [rV 14 1] σ5 (.inl [iV v6]) σ6 ∧ (if v6 = 0 then (Xr [iV 0] σ6) else (Xr [iV 1] (upS σ6 14 3 (w32 (σ6 14 3 + 1)))))))) → X 0 [rV 14 1] [] σ := by
        intro σ h
        obtain ⟨u1, u2⟩ := up σ t N (by omega) h
        obtain ⟨σ1, c1, c2, c3⟩ := aC _ u1
        obtain ⟨v1, v2⟩ := up σ1 p1.2 p1.1 (by omega) c3
        refine ⟨_, v1, (u2.trans c2).trans v2, ?_⟩
        intro X Xr Xt hC hx
        refine cl σ h X Xr Xt hC ⟨_, _, c1, ?_⟩
        rw [if_neg (show ¬ flg (.inl p1) = 0 from (by decide : ¬ (1 : Int) = 0))]
        refine ⟨_, isNext_C (by decide) 9 c3.1, ?_⟩
        rw [decide_eq_true (show (tK tx n p1.2 : Int) = 9 by omega), if_neg (by decide)]
        exact hx
      have re2 : ∀ τ, RP τ tx n t N → ∃ τ3, RP τ3 tx n (p1.2 + 1) p1.1 ∧ FrP τ τ3 ∧ ∀ (X : Nat → List Vv → List Vv → Sg → Prop) (Xr : List Vv → Sg → Prop) (Xt : Nat → Sg → Prop), Clo (Ct 8) 11 cX11_readChange none X Xr Xt → (∃ σ9 : Sg, Ct 8 MX11_readSide [rV 20 66, iV ((52 + 16 * N 3 + 8 * 1 : Nat) : Int)] τ3 (.inl []) σ9 ∧ (if σ9 66 13 = 0 then (Xr [] (upS σ9 68 3 (w32 (σ9 68 3 + 1)))) else (Xr [] σ9))) → X 0 [rV 20 66, uV] [] τ := by
        intro τ h
        obtain ⟨τ1, c1, c2, c3⟩ := rp_reads (d := 8) (by decide) hn h
        obtain ⟨τ2, d1, d2, d3⟩ := aR _ c2
        obtain ⟨τ3, e1, e2, e3⟩ := hmu τ2 d3
        refine ⟨τ3, e3, (c3.trans d2).trans e2, ?_⟩
        intro X Xr Xt hC hx
        refine re τ h τ1 c1 c2 X Xr Xt hC ⟨_, d1, _, e1, ?_⟩
        rw [if_pos e3.2.2]
        exact hx
      cases hr2 : r2 with
      | inr e =>
        rw [hr2] at bC bR
        refine ⟨.inr e, ?_, ?_, fun p hp => by cases hp⟩
        · intro σ h
          obtain ⟨σ3, x1, x2, x3⟩ := cl2 σ h
          obtain ⟨σ4, y1, y2⟩ := bC _ x1
          refine ⟨σ4, eX5_readChange (d := 8) ?_, y2.after x2⟩
          intro X Xr Xt hC hr
          refine x3 X Xr Xt hC ⟨_, _, y1, ?_⟩
          rw [if_pos (show flg (.inr e) = 0 from rfl)]
          exact hr
        · intro τ h
          obtain ⟨τ3, x1, x2, x3⟩ := re2 τ h
          obtain ⟨τ4, y1, y2⟩ := bR _ x1
          have hb : τ4 66 13 ≠ 0 := by rw [y2.2.2.1]; exact y2.2.1
          refine ⟨τ4, eX11_readChange (d := 8) ?_, y2.after x2⟩
          intro X Xr Xt hC hr
          refine x3 X Xr Xt hC ⟨_, y1, ?_⟩
          rw [if_neg hb]
          exact hr
      | inl p2 =>
        rw [hr2] at bC bR
        obtain ⟨z1, z2, z3, z4⟩ := bW p2 hr2
        rw [m3] at z1 z2
        have k0 : p2.1 0 = N 0 := by rw [z2 0 (by omega), m0]
        have k1 : p2.1 1 = N 1 := by rw [z2 1 (by omega), m1]
        have k2 : p2.1 2 = N 2 := by rw [z2 2 (by omega), m2]
        have k3 : p2.1 3 = N 3 := by rw [z2 3 (by omega), m3]
        refine ⟨.inl (updN p2.1 3 (p2.1 3 + 1), p2.2), ?_, ?_, fun p hp => ?_⟩
        · intro σ h
          obtain ⟨σ3, x1, x2, x3⟩ := cl2 σ h
          obtain ⟨σ4, y1, y2, y3⟩ := bC _ x1
          obtain ⟨v, σ5, σ6, b1, b2, b3⟩ := end_up (d := 8) (i := 3) (by decide) (Or.inr rfl) (show p2.2 < 100000 by omega) (by omega) (by omega) y3
          refine ⟨σ6, eX5_readChange (d := 8) ?_, b2.after (x2.trans y2)⟩
          intro X Xr Xt hC hr
          refine x3 X Xr Xt hC ⟨_, _, y1, ?_⟩
          rw [if_neg (show ¬ flg (.inl p2) = 0 from (by decide : ¬ (1 : Int) = 0))]
          refine ⟨v, σ5, b1, ?_⟩
          have hr2 : Xr [iV (flg (eoN tx n p2.2 (updN p2.1 3 (p2.1 3 + 1))))] σ6 := hr
          rcases b3 with ⟨a1, a2, a3⟩ | ⟨a1, a2, a3⟩
          · rw [if_pos a1]
            rw [a3, a2] at hr2
            exact hr2
          · rw [if_neg (by omega)]
            rw [a3, a2] at hr2
            exact hr2
        · intro τ h
          obtain ⟨τ3, x1, x2, x3⟩ := re2 τ h
          obtain ⟨τ4, y1, y2, y3⟩ := bR _ x1
          have a3 : τ4 68 3 = (p2.1 3 : Int) := y3.2.1 3 (by decide)
          have e1 : upS τ4 68 3 (w32 (τ4 68 3 + 1)) = rwS τ4 68 0 (updN p2.1 3 (p2.1 3 + 1)) := by
            have := rwS_up (σ := τ4) (a := 68) (i := 3) (v := p2.1 3 + 1) (M := p2.1) (by decide)
            rw [rwS_id y3.2.1] at this
            rw [a3, w32_s (show p2.1 3 < 2147483647 by omega)]
            exact this
          obtain ⟨d1, d2⟩ := rp_rw (M := updN p2.1 3 (p2.1 3 + 1)) y3
          refine ⟨_, eX11_readChange (d := 8) ?_, (x2.trans y2).trans d2, d1⟩
          intro X Xr Xt hC hr
          refine x3 X Xr Xt hC ⟨_, y1, ?_⟩
          rw [if_pos y3.2.2, e1]
          exact hr
        · cases hp
          refine ⟨?_, ?_, ?_, ?_⟩
          · show WFP (updN p2.1 3 (p2.1 3 + 1)) (updN p2.1 3 (p2.1 3 + 1) 2) (updN p2.1 3 (p2.1 3 + 1) 3)
            rw [updN_eq, updN_ne (show (2 : Nat) ≠ 3 by decide), k2, k3]
            unfold WFP
            rw [updN_cm (show (3 : Nat) ≠ 2 by decide), updN_2]
            exact z1
          · show updN p2.1 3 (p2.1 3 + 1) 0 = N 0
            rw [updN_ne (by decide)]
            exact k0
          · show 0 < updN p2.1 3 (p2.1 3 + 1) 1
            rw [updN_ne (by decide), k1]
            exact h1
          · show t < p2.2
            omega
    · rw [if_neg (show ¬ tK tx n p1.2 = 5 + 4 from g)] at hmu
      refine ⟨stpO tx n p1.2 2, ?_, ?_, fun p hp => by unfold stpO at hp; cases hp⟩
      · intro σ h
        obtain ⟨u1, u2⟩ := up σ t N (by omega) h
        obtain ⟨σ1, c1, c2, c3⟩ := aC _ u1
        obtain ⟨σ2, d1, d2⟩ := stop_CQ (d := 8) (k := 2) (by decide) (by decide) c3.1
        refine ⟨σ2, eX5_readChange (d := 8) ?_, d2.after (u2.trans c2)⟩
        intro X Xr Xt hC hr
        refine cl σ h X Xr Xt hC ⟨_, _, c1, ?_⟩
        rw [if_neg (show ¬ flg (.inl p1) = 0 from (by decide : ¬ (1 : Int) = 0))]
        refine ⟨_, isNext_C (by decide) 9 c3.1, ?_⟩
        rw [decide_eq_false (by omega), if_pos (by decide)]
        exact ⟨_, _, d1, Or.inl rfl, hr⟩
      · intro τ h
        obtain ⟨τ1, c1, c2, c3⟩ := rp_reads (d := 8) (by decide) hn h
        obtain ⟨τ2, d1, d2, d3⟩ := aR _ c2
        obtain ⟨τ3, e1, e2⟩ := hmu τ2 d3
        have hb : τ3 66 13 ≠ 0 := by rw [e2.2.2.1]; exact e2.2.1
        refine ⟨τ3, eX11_readChange (d := 8) ?_, e2.after (c3.trans d2)⟩
        intro X Xr Xt hC hr
        refine re τ h τ1 c1 c2 X Xr Xt hC ⟨_, d1, _, e1, ?_⟩
        rw [if_neg hb]
        exact hr

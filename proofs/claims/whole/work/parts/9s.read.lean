/-! the whole text on both sides -/
set_option maxRecDepth 20000 in
theorem read_pair {tx : Nat → Int} {n : Nat} (hn : n ≤ 700) : ∃ o : Po, (∀ σ : Sg, (∀ j, j < n → σ 6 j = tx j) → ∃ σ1, Ct 11 MX5_read [rV 14 1, rV 1000700 6, iV (n : Int)] σ (.inl []) σ1 ∧ CQ σ σ1 tx n o) ∧ (∀ τ, TxR τ tx n → τ 66 9 = 0 → τ 66 13 = 0 → ∃ τ1, RQ τ τ1 tx n o ∧ ∀ (X : Nat → List Vv → List Vv → Sg → Prop) (Xr : List Vv → Sg → Prop) (Xt : Nat → Sg → Prop), Clo (Ct 10) 11 cX11_town (some .int) X Xr Xt → ∀ (x1 : Int), X 64 [rV 20 66, iV x1] [] τ1 → ∃ σ3 : Sg, Ct 10 MX11_begins [rV 1000181 68] τ (.inl []) σ3 ∧ (∃ σ4 : Sg, Ct 10 MX11_reads [rV 20 66] σ3 (.inl []) σ4 ∧ (∃ σ5 : Sg, Ct 10 MX11_readMint [rV 20 66] σ4 (.inl []) σ5 ∧ (∃ σ6 : Sg, Ct 10 MX11_readStop [rV 20 66] σ5 (.inl []) σ6 ∧ X 64 [rV 20 66, iV x1] [] σ6)))) ∧ EW tx n o := by
  obtain ⟨r, rC, rR, rW⟩ := mint_pair (tx := tx) hn
  have hL : ∀ p, r = .inl p → p.1 0 ≤ 1000 := fun p hp => by have := (rW p hp).2.1.1; omega
  -- the class up to the mint
  have cl : ∀ σ : Sg, (∀ j, j < n → σ 6 j = tx j) → ∃ σ3, CQ σ σ3 tx n (thE tx n r) ∧ ∀ (X : Nat → List Vv → List Vv → Sg → Prop) (Xr : List Vv → Sg → Prop) (Xt : Nat → Sg → Prop), Clo (Ct 10) 5 cX5_read none X Xr Xt → X 39 [rV 14 1, rV 1000700 6, iV (n : Int), iV (flg (thE tx n r)), iV 0] [] σ3 → X 0 [rV 14 1, rV 1000700 6, iV (n : Int), uV, uV] [] σ := by
    intro σ h
    obtain ⟨σ1, c1, c2, c3⟩ := cutAll_C (d := 10) (by decide) hn h
    obtain ⟨M, hM⟩ : ∃ M, M = upS (upS (upS σ1 1 4 0) 1 0 0) 1 1 (-1) := ⟨_, rfl⟩
    obtain ⟨σ2, d1, d2, d3⟩ := empty_C (d := 10) (t := 14) (σ := M) (by decide)
    have m1 : ∀ b, b ≠ 1 → M b = σ1 b := fun b hb => by rw [hM, ups_cell hb, ups_cell hb, ups_cell hb]
    have s1 : σ2 1 = M 1 := d3 1 (by decide)
    have hcp : CP σ2 tx n 0 e0N := by
      refine ⟨⟨c2.fr (fun b h1 h2 => by rw [d3 b (by omega), m1 b (by omega)]), ?_⟩, d2, ?_, ?_⟩
      · rw [s1, hM, ups_ne (by decide), ups_ne (by decide), ups_eq]; rfl
      · rw [s1, hM, ups_ne (by decide), ups_eq]
      · rw [s1, hM, ups_eq]
    have hf : FcP σ σ2 := fun b hb => by rw [d3 b (by omega), m1 b (by omega), c3 b (by omega)]
    obtain ⟨σ3, e1, e2⟩ := rC σ2 hcp
    refine ⟨σ3, e2.after hf, ?_⟩
    intro X Xr Xt hC hx
    refine bX5_read_0 hC ?_
    refine ⟨_, c1, ?_⟩
    rw [← hM]
    exact ⟨_, d1, _, _, e1.mono (by decide), hx⟩
  -- the reference up to the mint's stop
  have re : ∀ τ, TxR τ tx n → τ 66 9 = 0 → τ 66 13 = 0 → ∃ τ3, RQ τ τ3 tx n (thE tx n r) ∧ ∀ (X : Nat → List Vv → List Vv → Sg → Prop) (x1 : Int), X 64 [rV 20 66, iV x1] [] τ3 → ∃ σ3 : Sg, Ct 10 MX11_begins [rV 1000181 68] τ (.inl []) σ3 ∧ (∃ σ4 : Sg, Ct 10 MX11_reads [rV 20 66] σ3 (.inl []) σ4 ∧ (∃ σ5 : Sg, Ct 10 MX11_readMint [rV 20 66] σ4 (.inl []) σ5 ∧ (∃ σ6 : Sg, Ct 10 MX11_readStop [rV 20 66] σ5 (.inl []) σ6 ∧ X 64 [rV 20 66, iV x1] [] σ6))) := by
    intro τ h h9 h13
    have b1 := begins_R (d := 10) (t := 68) (τ := τ) (by decide)
    have e66 : rwS τ 68 0 e0N 66 = τ 66 := rwS_cell (by decide)
    have e72 : rwS τ 68 0 e0N 72 = τ 72 := rwS_cell (by decide)
    obtain ⟨τ1, c1, c2, c3⟩ := reads_0 (d := 10) (tx := tx) (n := n) (τ := rwS τ 68 0 e0N) (by decide) hn ⟨by rw [e66]; exact h.1, fun j hj => by rw [e72]; exact h.2 j hj⟩ (by rw [e66]; exact h9)
    have hrp : RP τ1 tx n 0 e0N := ⟨c2, RowM_cell (rwS_row τ 68 0 e0N) (c3.2 68 (by decide)), by rw [c3.1 13 (by decide), e66]; exact h13⟩
    have hf : FrP τ τ1 := ⟨fun j hj => by rw [c3.1 j (by omega), e66], fun b hb1 hb2 => by rw [c3.2 b hb1, rwS_cell hb2]⟩
    obtain ⟨τ2, d1, d2⟩ := rR τ1 hrp
    obtain ⟨τ3, e1, e2⟩ := stop_th (d := 10) (by decide) hn hL d2
    exact ⟨τ3, e2.after hf, fun X x1 hx => ⟨_, b1, _, c1, _, d1.mono (by decide), _, e1, hx⟩⟩
  cases ho : thE tx n r with
  | inr e =>
    rw [ho] at cl re
    refine ⟨.inr e, ?_, ?_, fun p hp => by cases hp⟩
    · intro σ h
      obtain ⟨σ3, c1, c2⟩ := cl σ h
      refine ⟨σ3, eX5_read (d := 10) ?_, c1⟩
      intro X Xr Xt hC hr
      refine c2 X Xr Xt hC ?_
      refine bX5_read_39 hC ?_
      rw [if_pos (by decide), if_pos (show flg (.inr e) = 0 from rfl)]
      exact hr
    · intro τ h h9 h13
      obtain ⟨τ3, c1, c2⟩ := re τ h h9 h13
      exact ⟨τ3, c1, fun X Xr Xt hC x1 hx => c2 X x1 hx⟩
  | inl p =>
    rw [ho] at cl re
    have hw : WFP p.1 (p.1 2) (p.1 3) ∧ 0 < p.1 1 ∧ p.1 0 ≤ p.2 ∧ p.2 ≤ 700 := by
      cases hr : r with
      | inr e => rw [hr] at ho; cases ho
      | inl y =>
        rw [hr] at ho
        obtain ⟨y1, ⟨y2, y3, y4⟩, y5⟩ := rW y hr
        have hp2 : eoN tx n y.2 y.1 = .inl p := ho
        unfold eoN at hp2
        by_cases q : tK tx n y.2 = 3
        · rw [if_pos q] at hp2
          have hy := tK_lt (tx := tx) (n := n) (t := y.2) (by omega)
          cases hp2
          refine ⟨?_, ?_, ?_, ?_⟩
          · show WFP (updN y.1 0 (y.1 0 + 1)) (updN y.1 0 (y.1 0 + 1) 2) (updN y.1 0 (y.1 0 + 1) 3)
            rw [updN_ne (show (2 : Nat) ≠ 0 by decide), updN_ne (show (3 : Nat) ≠ 0 by decide), y3, y4]
            exact wfp_ln y1 (by omega)
          · show 0 < updN y.1 0 (y.1 0 + 1) 1
            rw [updN_ne (by decide)]
            exact y5
          · show updN y.1 0 (y.1 0 + 1) 0 ≤ y.2 + 1
            rw [updN_eq]
            omega
          · show y.2 + 1 ≤ 700
            omega
        · rw [if_neg q] at hp2
          unfold stpO at hp2
          cases hp2
    obtain ⟨o, oC, oR, oW⟩ := lines_pair (tx := tx) hn 701 p.2 0 p.1 (by omega) hw.2.2.2 (Nat.zero_le _) hw.2.1 hw.2.2.1 hw.1
    refine ⟨o, ?_, ?_, oW⟩
    · intro σ h
      obtain ⟨σ3, c1, c2⟩ := cl σ h
      obtain ⟨σ4, d1, d2⟩ := oC σ3 c1.2
      refine ⟨σ4, eX5_read (d := 10) ?_, d1.after c1.1⟩
      intro X Xr Xt hC hr
      exact c2 X Xr Xt hC (d2 X Xr Xt hC _ hr)
    · intro τ h h9 h13
      obtain ⟨τ3, c1, c2⟩ := re τ h h9 h13
      obtain ⟨τ4, d1, d2⟩ := oR τ3 c1.2
      exact ⟨τ4, d1.after c1.1, fun X Xr Xt hC x1 hx => c2 X x1 (d2 X Xr Xt hC x1 hx)⟩

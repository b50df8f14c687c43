/-! PAIR: town -/
theorem Inv_town {ω : Nat → Int} {σ υ : Sg} {M : Tn} (hI : Inv ω σ) (e : ∀ a, 21 ≤ a → a ≠ 66 → a ≠ 67 → a ≠ 68 → a < 80 → υ a = σ a) (hN : InvN υ M) (p1 : υ 0 1 = 0) (p2 : υ 66 7 = 0) (p3 : υ 0 2 = υ 66 15) (p4 : υ 0 3 = υ 66 16) : Inv ω υ := by
  obtain ⟨_, h2, _, h4, h5⟩ := hI
  refine ⟨⟨M, hN⟩, ?_, ⟨0, by decide, p1, p2, fun j hj => absurd hj (Nat.not_lt_zero j), p3, p4⟩, ?_, ?_⟩
  · intro i hi
    have := h2 i hi
    rw [e 43 (by decide) (by decide) (by decide) (by decide) (by decide), e 71 (by decide) (by decide) (by decide) (by decide) (by decide)]
    refine ⟨this.1, this.2.1, ?_⟩
    intro z
    obtain ⟨N, g1, g2, g3⟩ := this.2.2 z
    refine ⟨N, RowT_fr g1 ?_, RowM_cell g2 (e 70 (by decide) (by decide) (by decide) (by decide) (by decide)), g3⟩
    intro k hk
    exact e _ (by omega) (by omega) (by omega) (by omega) (by omega)
  · intro i hi
    rw [e (45 + 2 * i) (by omega) (by omega) (by omega) (by omega) (by omega), e (46 + 2 * i) (by omega) (by omega) (by omega) (by omega) (by omega), e 77 (by decide) (by decide) (by decide) (by decide) (by decide), e 78 (by decide) (by decide) (by decide) (by decide) (by decide), e 79 (by decide) (by decide) (by decide) (by decide) (by decide)]
    exact h4 i hi
  · exact (e 62 (by decide) (by decide) (by decide) (by decide) (by decide)).trans h5
theorem jt_town {ω : Nat → Int} {σ : Sg} (hI : Inv ω σ) (x : Int) : Jt ω MX10_town MX11_town [iV x] iV cdI σ := by
  obtain ⟨N, hQ⟩ := hI.1
  obtain ⟨n0, p1, p2, p3, p4, p5, p6⟩ := hI.2.2.1
  by_cases h : 0 ≤ x ∧ x ≤ (n0 : Int)
  · obtain ⟨n, hx⟩ := z_nat h.1
    subst hx
    have hn : n ≤ 700 := by omega
    have hnn : n ≤ n0 := by omega
    obtain ⟨o, oC, oR, oW⟩ := read_pair (tx := fun j => σ 6 j) hn
    obtain ⟨σ1, c1, c2⟩ := oC σ (fun j _ => rfl)
    -- the reference's memory at its beginning
    have begin_R : ∀ σC τ : Sg, (∀ b, 20 < b → b ≠ 87 → σC b = σ b) → ag80 σC τ → ∃ τ1, RQ (upS (upS (upS (upS (upS τ 66 5 0) 66 8 (n : Int)) 66 7 0) 66 9 0) 66 13 0) τ1 (fun j => σ 6 j) n o ∧ ∀ (X : Nat → List Vv → List Vv → Sg → Prop) (Xr : List Vv → Sg → Prop) (Xt : Nat → Sg → Prop), Clo (Ct 10) 11 cX11_town (some .int) X Xr Xt → X 64 [rV 20 66, iV (n : Int)] [] τ1 → X 0 [rV 20 66, iV (n : Int)] [] τ := by
      intro σC τ hC0 ha
      have t66 : τ 66 = σ 66 := by rw [ha 66 (by decide), hC0 66 (by decide) (by decide)]
      have t72 : τ 72 = σ 72 := by rw [ha 72 (by decide), hC0 72 (by decide) (by decide)]
      have htx : TxR (upS (upS (upS (upS (upS τ 66 5 0) 66 8 (n : Int)) 66 7 0) 66 9 0) 66 13 0) (fun j => σ 6 j) n := by
        refine ⟨?_, fun j hj => ?_⟩
        · rw [ups_ne (by decide), ups_ne (by decide), ups_ne (by decide), ups_eq]
        · rw [ups_cell (by decide), ups_cell (by decide), ups_cell (by decide), ups_cell (by decide), ups_cell (by decide), t72]
          exact (p4 j (by omega)).1.symm
      obtain ⟨τ1, d1, d2⟩ := oR _ htx (by rw [ups_ne (by decide), ups_eq]) ups_eq
      refine ⟨τ1, d1, ?_⟩
      intro X Xr Xt hC hx
      refine bX11_town_0 hC ?_
      refine ⟨_, ctX11_within (by decide), ?_⟩
      have e7 : upS τ 66 5 0 66 7 = (n0 : Int) := by rw [ups_ne (by decide), t66]; exact p3
      rw [e7, decide_eq_true (show 0 ≤ (n : Int) ∧ (n : Int) ≤ (n0 : Int) by omega), if_neg (by decide)]
      exact d2 X Xr Xt hC _ hx
    have cl : ∀ (X : Nat → List Vv → List Vv → Sg → Prop) (Xr : List Vv → Sg → Prop) (Xt : Nat → Sg → Prop), Clo (Ct 11) 10 cX10_town (some .int) X Xr Xt → (if σ1 1 0 = 0 then (∃ σ2 : Sg, Ct 11 MX8_become [rV 17 7, rV 17 14] (upS (upS (upS σ1 0 1 0) 0 2 (σ1 1 0)) 0 3 (σ1 1 1)) (.inl []) σ2 ∧ Xr [iV (σ2 7 0)] σ2) else Xr [iV (w32 (-10 - σ1 1 0))] (upS (upS (upS σ1 0 1 0) 0 2 (σ1 1 0)) 0 3 (σ1 1 1))) → X 0 [rV 19 0, iV (n : Int)] [] σ := by
      intro X Xr Xt hC hx
      refine bX10_town_0 hC ?_
      rw [p2, if_neg (by omega), if_neg (by omega)]
      refine ⟨_, c1, ?_⟩
      have a1 : ∀ k, upS σ1 0 1 0 1 k = σ1 1 k := fun k => by rw [ups_cell (by decide)]
      have a2 : ∀ (v : Int) k, upS (upS σ1 0 1 0) 0 2 v 1 k = σ1 1 k := fun v k => by rw [ups_cell (by decide), ups_cell (by decide)]
      have a3 : ∀ v w : Int, upS (upS (upS σ1 0 1 0) 0 2 v) 0 3 w 0 2 = v := fun v w => by rw [ups_ne (by decide), ups_eq]
      rw [a1, a2, a3]
      exact hx
    cases ho : o with
    | inl p =>
      rw [ho] at c2 begin_R
      obtain ⟨f1, k1, k2, k3, k4⟩ := c2
      have wf := (oW p ho).1
      have hk0 := (oW p ho).2
      obtain ⟨S, hS⟩ : ∃ S, S = upS (upS (upS σ1 0 1 0) 0 2 (σ1 1 0)) 0 3 (σ1 1 1) := ⟨_, rfl⟩
      have sc : ∀ b, b ≠ 0 → S b = σ1 b := fun b hb => by rw [hS, ups_cell hb, ups_cell hb, ups_cell hb]
      have rS : RowT S 14 p.1 := RowT_fr k2 (fun i hi => sc _ (by omega))
      have bc := ctX8_become (d := 11) (t := 7) (s := 14) (by decide) (by decide) rS
      refine Or.inl ⟨(p.1 0 : Int), tnS S 7 p.1, ?_, ?_⟩
      · refine (eX10_town (d := 11) ?_).mono (by decide)
        intro X Xr Xt hC hr
        refine cl X Xr Xt hC ?_
        rw [if_pos k3, ← hS]
        refine ⟨_, bc, ?_⟩
        rw [tnS_0 (show 0 < 4 by decide)]
        exact hr
      · intro τ ha
        obtain ⟨τ1, d1, d2⟩ := begin_R (tnS S 7 p.1) τ (fun b hb hb2 => by rw [tnS_cell (by omega), sc b (by omega), f1 b (by omega)]) ha
        obtain ⟨g1, g2, g3, g4⟩ := d1
        have g11 : τ1 66 11 = 0 := by rw [g2.2.2.2.1, hk0]; rfl
        obtain ⟨U, hU⟩ : ∃ U, U = upS (upS τ1 66 15 0) 66 16 (-1) := ⟨_, rfl⟩
        have uc : ∀ b, b ≠ 66 → U b = τ1 b := fun b hb => by rw [hU, ups_cell hb, ups_cell hb]
        have rU : RowM U 68 0 p.1 := RowM_cell g3 (uc 68 (by decide))
        have cp := ctX11_copies (d := 10) (a := 68) (b := 67) (by decide) (by decide) rU
        have b66 : rwS U 67 0 p.1 66 = U 66 := rwS_cell (by decide)
        have tc : ∀ b, b ≠ 66 → b ≠ 67 → b ≠ 68 → rwS U 67 0 p.1 b = τ b := fun b h1 h2 h3 => by rw [rwS_cell h2, uc b h1, g1.2 b h1 h3, ups_cell h1, ups_cell h1, ups_cell h1, ups_cell h1, ups_cell h1]
        have s0 : ∀ k, rwS U 67 0 p.1 0 k = S 0 k := fun k => by rw [tc 0 (by decide) (by decide) (by decide), ha 0 (by decide), tnS_cell (by decide)]
        refine ⟨rwS U 67 0 p.1, ?_, ?_, Inv_town (M := p.1) hI ?_ ⟨?_, rwS_row _ _ _ _, wf⟩ ?_ ?_ ?_ ?_⟩
        · refine (eX11_town (d := 10) ?_).mono (by decide)
          intro X Xr Xt hC hr
          refine d2 X Xr Xt hC ?_
          refine bX11_town_64 hC ?_
          have b1 : ∀ v : Int, upS τ1 66 15 v 66 13 = 0 := fun v => by rw [ups_ne (by decide)]; exact g4
          have b2 : ∀ v w : Int, upS (upS τ1 66 15 v) 66 16 w 66 13 = 0 := fun v w => by rw [ups_ne (by decide), ups_ne (by decide)]; exact g4
          rw [if_pos g4, if_pos g11, g4, if_pos (b1 0), if_pos (b2 0 (-1)), ← hU]
          refine ⟨_, cp, ?_⟩
          have r0 : rwS U 67 0 p.1 67 0 = (p.1 0 : Int) := rwS_row U 67 0 p.1 0 (by decide)
          rw [r0]
          exact hr
        · rw [b66, hU, ups_ne (by decide), ups_ne (by decide), g1.1 5 (by decide), ups_ne (by decide), ups_ne (by decide), ups_ne (by decide), ups_ne (by decide), ups_eq]
        · intro a h1 h2 h3 h4 h5
          rw [tc a h2 h3 h4, ha a (by omega), tnS_cell (by omega), sc a (by omega), f1 a (by omega)]
        · refine RowT_fr (tnS_row S 7 p.1) (fun i hi => ?_)
          rw [tc _ (by omega) (by omega) (by omega), ha _ (by omega)]
        · rw [s0, hS, ups_ne (by decide), ups_ne (by decide), ups_eq]
        · rw [b66, hU, ups_ne (by decide), ups_ne (by decide), g1.1 7 (by decide), ups_ne (by decide), ups_ne (by decide), ups_eq]
        · rw [s0, hS, ups_ne (by decide), ups_eq, b66, hU, ups_ne (by decide), ups_eq]
          exact k3
        · rw [s0, hS, ups_eq, b66, hU, ups_eq]
          exact k4
    | inr e =>
      rw [ho] at c2 begin_R
      obtain ⟨f1, k1, k2, k3⟩ := c2
      obtain ⟨S, hS⟩ : ∃ S, S = upS (upS (upS σ1 0 1 0) 0 2 (σ1 1 0)) 0 3 (σ1 1 1) := ⟨_, rfl⟩
      have sc : ∀ b, b ≠ 0 → S b = σ1 b := fun b hb => by rw [hS, ups_cell hb, ups_cell hb, ups_cell hb]
      refine Or.inl ⟨w32 (-10 - e.1), S, ?_, ?_⟩
      · refine (eX10_town (d := 11) ?_).mono (by decide)
        intro X Xr Xt hC hr
        refine cl X Xr Xt hC ?_
        rw [if_neg (by rw [k2]; exact k1), ← hS, k2]
        exact hr
      · intro τ ha
        obtain ⟨τ1, d1, d2⟩ := begin_R S τ (fun b hb hb2 => by rw [sc b (by omega), f1 b (by omega)]) ha
        obtain ⟨g1, g2, g3, g4⟩ := d1
        have g13 : τ1 66 13 ≠ 0 := by rw [g3]; exact g2
        obtain ⟨U, hU⟩ : ∃ U, U = upS (upS τ1 66 15 e.1) 66 16 (e.2 : Int) := ⟨_, rfl⟩
        have uc : ∀ b, b ≠ 66 → U b = τ1 b := fun b hb => by rw [hU, ups_cell hb, ups_cell hb]
        have tc : ∀ b, b ≠ 66 → b ≠ 68 → U b = τ b := fun b h1 h3 => by rw [uc b h1, g1.2 b h1 h3, ups_cell h1, ups_cell h1, ups_cell h1, ups_cell h1, ups_cell h1]
        have s0 : ∀ k, U 0 k = S 0 k := fun k => by rw [tc 0 (by decide) (by decide), ha 0 (by decide)]
        have sn : ∀ b, 6 ≤ b ∧ b < 14 ∨ 20 < b ∧ b < 80 → b ≠ 66 → b ≠ 68 → b ≠ 88 → U b = σ b := fun b h1 h2 h3 h4 => by rw [tc b h2 h3, ha b h4, sc b (by omega), f1 b (by omega)]
        refine ⟨U, ?_, ?_, Inv_town (M := N) hI ?_ ⟨?_, ?_, hQ.2.2⟩ ?_ ?_ ?_ ?_⟩
        · refine (eX11_town (d := 10) ?_).mono (by decide)
          intro X Xr Xt hC hr
          refine d2 X Xr Xt hC ?_
          refine bX11_town_64 hC ?_
          have b1 : ∀ v : Int, upS τ1 66 15 v 66 13 = e.1 := fun v => by rw [ups_ne (by decide)]; exact g3
          have b14 : ∀ v : Int, upS τ1 66 15 v 66 14 = (e.2 : Int) := fun v => by rw [ups_ne (by decide)]; exact g4
          have b2 : ∀ v w : Int, upS (upS τ1 66 15 v) 66 16 w 66 13 = e.1 := fun v w => by rw [ups_ne (by decide), ups_ne (by decide)]; exact g3
          rw [if_neg g13, g3, b1, if_neg g2, b14, b2, if_neg g2, ← hU]
          exact hr
        · rw [hU, ups_ne (by decide), ups_ne (by decide), g1.1 5 (by decide), ups_ne (by decide), ups_ne (by decide), ups_ne (by decide), ups_ne (by decide), ups_eq]
        · intro a h1 h2 h3 h4 h5
          exact sn a (by omega) h2 h4 (by omega)
        · refine RowT_fr hQ.1 (fun i hi => ?_)
          exact sn _ (by omega) (by omega) (by omega) (by omega)
        · exact RowM_cell hQ.2.1 (sn 67 (by decide) (by decide) (by decide) (by decide))
        · rw [s0, hS, ups_ne (by decide), ups_ne (by decide), ups_eq]
        · rw [hU, ups_ne (by decide), ups_ne (by decide), g1.1 7 (by decide), ups_ne (by decide), ups_ne (by decide), ups_eq]
        · rw [s0, hS, ups_ne (by decide), ups_eq, hU, ups_ne (by decide), ups_eq]
          exact k2
        · rw [s0, hS, ups_eq, hU, ups_eq]
          exact k3
  · refine Or.inr ⟨2, σ, by decide, ?_, ?_⟩
    · refine (eX10_town (d := 11) ?_).mono (by decide)
      intro X Xr Xt hC hr
      refine bX10_town_0 hC ?_
      by_cases z : x < 0
      · rw [if_pos z]
        exact hr
      · rw [if_neg z, p2, if_pos (by omega)]
        exact hr
    · intro τ ha
      have e7 : upS τ 66 5 0 66 7 = (n0 : Int) := by rw [ups_ne (by decide), ha 66 (by decide)]; exact p3
      have ef := ctX11_fails (d := 10) (x := 1) (σ := upS τ 66 5 0) (by decide)
      rw [ups_66] at ef
      refine ⟨0, upS τ 66 5 1, ?_, ups_eq, Inv_fr hI (th_fr ha)⟩
      refine (eX11_town (d := 10) ?_).mono (by decide)
      intro X Xr Xt hC hr
      refine bX11_town_0 hC ?_
      refine ⟨_, ctX11_within (by decide), ?_⟩
      rw [e7, decide_eq_false h, if_pos (by decide)]
      exact ⟨_, _, ef, hr⟩

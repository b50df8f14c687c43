/-! a line, and all lines, on both sides -/
def LW (tx : Nat → Int) (n t : Nat) (o : Po) : Prop := ∀ p, o = .inl p → WFP p.1 (p.1 2) (p.1 3) ∧ 0 < p.1 1 ∧ p.1 0 ≤ p.2 ∧ t < p.2 ∧ p.2 ≤ 700
/-- readStop behind an outcome -/
theorem stop_th {d : Nat} (hd : 5 ≤ d) {τ τ1 : Sg} {tx : Nat → Int} {n : Nat} {r : Po} (hn : n ≤ 700) (hL : ∀ p, r = .inl p → p.1 0 ≤ 1000) (h : RQ τ τ1 tx n r) : ∃ τ2, Ct d MX11_readStop [rV 20 66] τ1 (.inl []) τ2 ∧ RQ τ τ2 tx n (thE tx n r) := by
  cases hr : r with
  | inl p =>
    rw [hr] at h
    obtain ⟨τ2, c1, c2⟩ := readStop_R hd hn (hL p hr) h.2
    exact ⟨τ2, c1, c2.after h.1⟩
  | inr p =>
    rw [hr] at h
    have hb : τ1 66 13 ≠ 0 := by rw [h.2.2.1]; exact h.2.1
    exact ⟨τ1, readStop_R0 (by omega) hb, h⟩
theorem th_LW {tx : Nat → Int} {n t : Nat} {r : Po} {N : Tn} (hn : n ≤ 700) (h0 : N 0 ≤ t) (ht : t ≤ 700) (hr : ∀ p, r = .inl p → WFP p.1 (p.1 2) (p.1 3) ∧ p.1 0 = N 0 ∧ 0 < p.1 1 ∧ t < p.2) : LW tx n t (thE tx n r) := by
  intro p hp
  cases r with
  | inr e => cases hp
  | inl y =>
    obtain ⟨y1, y2, y3, y4⟩ := hr y rfl
    have hp2 : eoN tx n y.2 y.1 = .inl p := hp
    unfold eoN at hp2
    by_cases q : tK tx n y.2 = 3
    · rw [if_pos q] at hp2
      have hy := tK_lt (tx := tx) (n := n) (t := y.2) (by omega)
      cases hp2
      refine ⟨?_, ?_, ?_, ?_, ?_⟩
      · show WFP (updN y.1 0 (y.1 0 + 1)) (updN y.1 0 (y.1 0 + 1) 2) (updN y.1 0 (y.1 0 + 1) 3)
        rw [updN_ne (show (2 : Nat) ≠ 0 by decide), updN_ne (show (3 : Nat) ≠ 0 by decide)]
        exact wfp_ln y1 (by omega)
      · show 0 < updN y.1 0 (y.1 0 + 1) 1
        rw [updN_ne (by decide)]
        exact y3
      · show updN y.1 0 (y.1 0 + 1) 0 ≤ y.2 + 1
        rw [updN_eq]
        omega
      · show t < y.2 + 1
        omega
      · show y.2 + 1 ≤ 700
        omega
    · rw [if_neg q] at hp2
      unfold stpO at hp2
      cases hp2
theorem line_pair {tx : Nat → Int} {n t : Nat} {N : Tn} (hn : n ≤ 700) (q : tK tx n t ≠ 0) (h1 : 0 < N 1) (h0 : N 0 ≤ t) (hW : WFP N (N 2) (N 3)) : ∃ o : Po, (∀ σ, CP σ tx n t N → ∃ σ1, CQ σ σ1 tx n o ∧ ∀ (X : Nat → List Vv → List Vv → Sg → Prop) (Xr : List Vv → Sg → Prop) (Xt : Nat → Sg → Prop), Clo (Ct 10) 5 cX5_read none X Xr Xt → ∀ (x1 : Int) (i : Nat), i < 700 → X 39 [rV 14 1, rV 1000700 6, iV x1, iV (flg o), iV ((i + 1 : Nat) : Int)] [] σ1 → X 39 [rV 14 1, rV 1000700 6, iV x1, iV 1, iV (i : Int)] [] σ) ∧ (∀ τ, RP τ tx n t N → ∃ τ1, Ct 10 MX11_readLine [rV 20 66] τ (.inl []) τ1 ∧ RQ τ τ1 tx n o) ∧ LW tx n t o := by
  have htn := tK_lt (tx := tx) (n := n) (t := t) q
  have isP : ∀ τ, RP τ tx n t N → Ct 9 MX11_isWord [rV 20 66, rV 30 1008] τ (.inl [iV (b01 (decide (tK tx n t = 5 + 1)))]) τ := fun τ h => isWordR (k := 8) (j := 1) (by decide) (by decide) (by decide) hn (fun b e => (isW_ref tx b e).2.2.2.1) h.1 h.2.2
  have isC : ∀ τ, RP τ tx n t N → Ct 9 MX11_isWord [rV 20 66, rV 30 1009] τ (.inl [iV (b01 (decide (tK tx n t = 5 + 3)))]) τ := fun τ h => isWordR (k := 9) (j := 3) (by decide) (by decide) (by decide) hn (fun b e => (isW_ref tx b e).2.2.2.2) h.1 h.2.2
  by_cases g : tK tx n t = 6
  · obtain ⟨r, rC, rR, rW⟩ := purse_pair hn g h1 (by omega) hW
    have hL : ∀ p, r = .inl p → p.1 0 ≤ 1000 := fun p hp => by have := (rW p hp).2.1; omega
    refine ⟨thE tx n r, ?_, ?_, th_LW hn h0 (by omega) rW⟩
    · intro σ h
      obtain ⟨σ1, c1, c2⟩ := rC σ h
      refine ⟨σ1, c2, ?_⟩
      intro X Xr Xt hC x1 i hi hx
      refine bX5_read_39 hC ?_
      rw [if_pos (show (i : Int) < 700 by omega), if_neg (by decide)]
      refine ⟨_, isNext_C (by decide) 0 h.1, ?_⟩
      rw [decide_eq_false (by omega), if_pos (by decide)]
      refine ⟨_, isNext_C (by decide) 6 h.1, ?_⟩
      rw [decide_eq_true (show (tK tx n t : Int) = 6 by omega), if_neg (by decide), w32_s (show i < 2147483647 by omega)]
      exact ⟨_, _, c1.mono (by decide), hx⟩
    · intro τ h
      obtain ⟨τ1, c1, c2⟩ := rR τ h
      obtain ⟨τ2, d1, d2⟩ := stop_th (d := 9) (by decide) hn hL c2
      refine ⟨τ2, eX11_readLine (d := 9) ?_, d2⟩
      intro X Xr Xt hC hr
      refine bX11_readLine_0 hC ?_
      refine ⟨_, isP τ h, ?_⟩
      rw [decide_eq_true (show tK tx n t = 5 + 1 from g), if_neg (by decide)]
      exact ⟨_, c1, _, d1, hr⟩
  by_cases f : tK tx n t = 8
  · obtain ⟨r, rC, rR, rW⟩ := change_pair hn f h1 (by omega) hW
    have hL : ∀ p, r = .inl p → p.1 0 ≤ 1000 := fun p hp => by have := (rW p hp).2.1; omega
    refine ⟨thE tx n r, ?_, ?_, th_LW hn h0 (by omega) rW⟩
    · intro σ h
      obtain ⟨σ1, c1, c2⟩ := rC σ h
      refine ⟨σ1, c2, ?_⟩
      intro X Xr Xt hC x1 i hi hx
      refine bX5_read_39 hC ?_
      rw [if_pos (show (i : Int) < 700 by omega), if_neg (by decide)]
      refine ⟨_, isNext_C (by decide) 0 h.1, ?_⟩
      rw [decide_eq_false (by omega), if_pos (by decide)]
      refine ⟨_, isNext_C (by decide) 6 h.1, ?_⟩
      rw [decide_eq_false (by omega), if_pos (by decide)]
      refine ⟨_, isNext_C (by decide) 8 h.1, ?_⟩
      rw [decide_eq_true (show (tK tx n t : Int) = 8 by omega), if_neg (by decide), w32_s (show i < 2147483647 by omega)]
      exact ⟨_, _, c1.mono (by decide), hx⟩
    · intro τ h
      obtain ⟨τ1, c1, c2⟩ := rR τ h
      obtain ⟨τ2, d1, d2⟩ := stop_th (d := 9) (by decide) hn hL c2
      refine ⟨τ2, eX11_readLine (d := 9) ?_, d2⟩
      intro X Xr Xt hC hr
      refine bX11_readLine_0 hC ?_
      refine ⟨_, isP τ h, ?_⟩
      rw [decide_eq_false (show ¬ tK tx n t = 5 + 1 from g), if_pos (by decide)]
      refine ⟨_, isC τ h, ?_⟩
      rw [decide_eq_true (show tK tx n t = 5 + 3 from f), if_neg (by decide)]
      exact ⟨_, c1, _, d1, hr⟩
  · refine ⟨stpO tx n t 2, ?_, ?_, fun p hp => by unfold stpO at hp; cases hp⟩
    · intro σ h
      obtain ⟨σ1, c1, c2⟩ := stop_CQ (d := 10) (k := 2) (by decide) (by decide) h.1
      refine ⟨σ1, c2, ?_⟩
      intro X Xr Xt hC x1 i hi hx
      refine bX5_read_39 hC ?_
      rw [if_pos (show (i : Int) < 700 by omega), if_neg (by decide)]
      refine ⟨_, isNext_C (by decide) 0 h.1, ?_⟩
      rw [decide_eq_false (by omega), if_pos (by decide)]
      refine ⟨_, isNext_C (by decide) 6 h.1, ?_⟩
      rw [decide_eq_false (by omega), if_pos (by decide)]
      refine ⟨_, isNext_C (by decide) 8 h.1, ?_⟩
      rw [decide_eq_false (by omega), if_pos (by decide), w32_s (show i < 2147483647 by omega)]
      exact ⟨_, _, c1, hx⟩
    · intro τ h
      have hb : blS τ tx n t 2 66 13 ≠ 0 := blS_bad (by decide)
      refine ⟨_, eX11_readLine (d := 9) ?_, blS_RQ (k := 2) (by decide)⟩
      intro X Xr Xt hC hr
      refine bX11_readLine_0 hC ?_
      refine ⟨_, isP τ h, ?_⟩
      rw [decide_eq_false (show ¬ tK tx n t = 5 + 1 from g), if_pos (by decide)]
      refine ⟨_, isC τ h, ?_⟩
      rw [decide_eq_false (show ¬ tK tx n t = 5 + 3 from f), if_pos (by decide)]
      exact ⟨_, blames_R (by decide) h.1 h.2.2, _, readStop_R0 (by decide) hb, hr⟩
def EW (tx : Nat → Int) (n : Nat) (o : Po) : Prop := ∀ p, o = .inl p → WFN p.1 ∧ tK tx n p.2 = 0
set_option maxRecDepth 20000 in
theorem lines_pair {tx : Nat → Int} {n : Nat} (hn : n ≤ 700) : ∀ (g t i : Nat) (N : Tn), 701 ≤ t + g → t ≤ 700 → i ≤ t → 0 < N 1 → N 0 ≤ t → WFP N (N 2) (N 3) → ∃ o : Po, (∀ σ, CP σ tx n t N → ∃ σ1, CQ σ σ1 tx n o ∧ ∀ (X : Nat → List Vv → List Vv → Sg → Prop) (Xr : List Vv → Sg → Prop) (Xt : Nat → Sg → Prop), Clo (Ct 10) 5 cX5_read none X Xr Xt → ∀ (x1 : Int), Xr [] σ1 → X 39 [rV 14 1, rV 1000700 6, iV x1, iV 1, iV (i : Int)] [] σ) ∧ (∀ τ, RP τ tx n t N → ∃ τ1, RQ τ τ1 tx n o ∧ ∀ (X : Nat → List Vv → List Vv → Sg → Prop) (Xr : List Vv → Sg → Prop) (Xt : Nat → Sg → Prop), Clo (Ct 10) 11 cX11_town (some .int) X Xr Xt → ∀ (x1 : Int), X 64 [rV 20 66, iV x1] [] τ1 → X 64 [rV 20 66, iV x1] [] τ) ∧ EW tx n o := by
  intro g
  induction g with
  | zero => intro t i N h1 h2; exact absurd h2 (by omega)
  | succ g ih =>
    intro t i N hg ht hi h1 h0 hW
    by_cases q : tK tx n t = 0
    · refine ⟨.inl (N, t), ?_, ?_, fun p hp => by cases hp; exact ⟨wfp_end hW, q⟩⟩
      · intro σ h
        refine ⟨σ, ⟨FcP.refl σ, h⟩, ?_⟩
        intro X Xr Xt hC x1 hx
        refine bX5_read_39 hC ?_
        by_cases z : i < 700
        · rw [if_pos (show (i : Int) < 700 by omega), if_neg (by decide)]
          refine ⟨_, isNext_C (by decide) 0 h.1, ?_⟩
          rw [decide_eq_true (show (tK tx n t : Int) = 0 by omega), if_neg (by decide)]
          exact hx
        · rw [if_neg (show ¬ (i : Int) < 700 by omega)]
          exact hx
      · intro τ h
        exact ⟨τ, ⟨FrP.refl τ, h⟩, fun X Xr Xt hC x1 hx => hx⟩
    · have htn := tK_lt (tx := tx) (n := n) (t := t) q
      obtain ⟨o, oC, oR, oW⟩ := line_pair hn q h1 h0 hW
      have rst : ∀ τ, RP τ tx n t N → ∀ τ1, Ct 10 MX11_readLine [rV 20 66] τ (.inl []) τ1 → ∀ (X : Nat → List Vv → List Vv → Sg → Prop) (Xr : List Vv → Sg → Prop) (Xt : Nat → Sg → Prop), Clo (Ct 10) 11 cX11_town (some .int) X Xr Xt → ∀ (x1 : Int), X 64 [rV 20 66, iV x1] [] τ1 → X 64 [rV 20 66, iV x1] [] τ := by
        intro τ h τ1 c1 X Xr Xt hC x1 hx
        refine bX11_town_64 hC ?_
        have h11 : ¬ τ 66 11 = 0 := by rw [h.1.2.2.2.1]; exact fun z => q (rkd_is.2.2.2.1.mp z)
        rw [if_pos h.2.2, if_neg h11]
        exact ⟨_, c1, hx⟩
      cases ho : o with
      | inr e =>
        rw [ho] at oC oR
        refine ⟨.inr e, ?_, ?_, fun p hp => by cases hp⟩
        · intro σ h
          obtain ⟨σ1, c1, c2⟩ := oC σ h
          refine ⟨σ1, c1, ?_⟩
          intro X Xr Xt hC x1 hx
          refine c2 X Xr Xt hC x1 i (by omega) ?_
          refine bX5_read_39 hC ?_
          by_cases z : i + 1 < 700
          · rw [if_pos (show ((i + 1 : Nat) : Int) < 700 by omega), if_pos (show flg (.inr e) = 0 from rfl)]
            exact hx
          · rw [if_neg (show ¬ ((i + 1 : Nat) : Int) < 700 by omega)]
            exact hx
        · intro τ h
          obtain ⟨τ1, c1, c2⟩ := oR τ h
          exact ⟨τ1, c2, rst τ h τ1 c1⟩
      | inl p =>
        rw [ho] at oC oR
        obtain ⟨w1, w2, w3, w4, w5⟩ := oW p ho
        obtain ⟨o2, pC, pR, pW⟩ := ih p.2 (i + 1) p.1 (by omega) w5 (by omega) w2 w3 w1
        refine ⟨o2, ?_, ?_, pW⟩
        · intro σ h
          obtain ⟨σ1, c1, c2⟩ := oC σ h
          obtain ⟨σ2, d1, d2⟩ := pC σ1 c1.2
          refine ⟨σ2, d1.after c1.1, ?_⟩
          intro X Xr Xt hC x1 hx
          exact c2 X Xr Xt hC x1 i (by omega) (d2 X Xr Xt hC x1 hx)
        · intro τ h
          obtain ⟨τ1, c1, c2⟩ := oR τ h
          obtain ⟨τ2, d1, d2⟩ := pR τ1 c2.2
          refine ⟨τ2, d1.after c2.1, ?_⟩
          intro X Xr Xt hC x1 hx
          exact rst τ h τ1 c1 X Xr Xt hC x1 (d2 X Xr Xt hC x1 hx)

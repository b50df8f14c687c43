/-! a purse's line on both sides -/
theorem eo_up {tx : Nat → Int} {n t i v : Nat} {N : Tn} (h : i ≠ 0) : eoN tx n t (updN N i v) = if tK tx n t = 3 then .inl (updN (updN N 0 (N 0 + 1)) i v, t + 1) else stpO tx n t 2 := by
  unfold eoN
  rw [updN_ne (Ne.symm h), updN_cm h]
theorem end_up {d i : Nat} (hd : 3 ≤ d) (hi : i = 2 ∨ i = 3) {σ : Sg} {tx : Nat → Int} {n t : Nat} {N : Tn} (ht : t < 100000) (h0 : N 0 ≤ 1000) (hv : N i < 100) (h : CP σ tx n t N) : ∃ (v : Int) (σ1 σ2 : Sg), Ct d MX5_endLine [rV 14 1] σ (.inl [iV v]) σ1 ∧ CQ σ σ2 tx n (eoN tx n t (updN N i (N i + 1))) ∧ ((v = 0 ∧ σ2 = σ1 ∧ flg (eoN tx n t (updN N i (N i + 1))) = 0) ∨ (v = 1 ∧ σ2 = upS σ1 14 i (w32 (σ1 14 i + 1)) ∧ flg (eoN tx n t (updN N i (N i + 1))) = 1)) := by
  obtain ⟨σ1, c1, c2⟩ := endLine_C hd ht h0 h
  have hi0 : i ≠ 0 := by omega
  by_cases q : tK tx n t = 3
  · have e1 : eoN tx n t N = .inl (updN N 0 (N 0 + 1), t + 1) := if_pos q
    have e2 : eoN tx n t (updN N i (N i + 1)) = .inl (updN (updN N 0 (N 0 + 1)) i (N i + 1), t + 1) := by rw [eo_up hi0, if_pos q]
    rw [e1] at c1 c2
    have c2' : CP σ1 tx n (t + 1) (updN N 0 (N 0 + 1)) := c2.2
    have ai : σ1 14 i = (N i : Int) := by rw [c2'.2.1.1 i (by omega), updN_ne hi0]
    have em : upS σ1 14 i (w32 (σ1 14 i + 1)) = tnS σ1 14 (updN (updN N 0 (N 0 + 1)) i (N i + 1)) := by
      have := tnS_up (σ := σ1) (t := 14) (a := 14) (k := i) (i := i) (v := N i + 1) (M := updN N 0 (N 0 + 1)) (Or.inl ⟨rfl, by omega, rfl⟩)
      rw [tnS_id c2'.2.1] at this
      rw [ai, w32_s (show N i < 2147483647 by omega)]
      exact this
    obtain ⟨u1, u2⟩ := cp_tn (M := updN (updN N 0 (N 0 + 1)) i (N i + 1)) c2'
    refine ⟨1, σ1, _, c1, ?_, Or.inr ⟨rfl, em.symm, by rw [e2]; rfl⟩⟩
    rw [e2]
    exact ⟨c2.1.trans u2, u1⟩
  · have e1 : eoN tx n t N = stpO tx n t 2 := if_neg q
    have e2 : eoN tx n t (updN N i (N i + 1)) = stpO tx n t 2 := by rw [eo_up hi0, if_neg q]
    rw [e1] at c1 c2
    refine ⟨0, σ1, σ1, c1, ?_, Or.inl ⟨rfl, rfl, by rw [e2]; rfl⟩⟩
    rw [e2]
    exact c2
def PC (tx : Nat → Int) (n : Nat) (o : Po) (i t : Nat) (N : Tn) : Prop := ∀ σ, CP σ tx n t N → ∃ σ1, (∀ (X : Nat → List Vv → List Vv → Sg → Prop) (Xr : List Vv → Sg → Prop) (Xt : Nat → Sg → Prop), Clo (Ct 8) 5 cX5_readPurse (some .boolean) X Xr Xt → Xr [iV (flg o)] σ1 → X 29 [rV 14 1, iV (i : Int)] [] σ) ∧ CQ σ σ1 tx n o
def PR (tx : Nat → Int) (n : Nat) (r : Po) (t : Nat) (N : Tn) : Prop := ∀ τ, RP τ tx n t N → ∃ τ1, (∀ (X : Nat → List Vv → List Vv → Sg → Prop) (Xr : List Vv → Sg → Prop) (Xt : Nat → Sg → Prop), Clo (Ct 8) 11 cX11_readPurse none X Xr Xt → Xr [] τ1 → ∀ x2 : Int, X 63 [rV 20 66, iV ((12 + 8 * N 2 : Nat) : Int), iV x2, uV] [] τ) ∧ RQ τ τ1 tx n r
theorem puO_inl {tx : Nat → Int} {n t K : Nat} {N : Tn} {p : Tn × Nat} (hW : WFP N (N 2 + 1) K) (h : puO tx n t N = .inl p) : WFP p.1 (N 2 + 1) K ∧ (∀ j, j < 12 → p.1 j = N j) ∧ t + 1 ≤ p.2 ∧ p.2 ≤ t + 3 := by
  have h5 := (wfp_1 hW).2.1
  have hs := wfp_hs hW (show N 2 < 5 by omega)
  have hr0 := nrN_rng N (tV tx n t)
  unfold puO at h
  by_cases y : nrN N (tV tx n t) = -1
  · rw [if_pos y] at h
    unfold stpO at h
    cases h
  rw [if_neg y] at h
  have hc : (nrN N (tV tx n t)).toNat < N 1 := by omega
  by_cases z : sumN (hN N (N 2)) 8 = 9
  · rw [if_pos z] at h
    unfold stpO at h
    cases h
  rw [if_neg z] at h
  by_cases w : tK tx n (t + 1) = 7
  · rw [if_pos w] at h
    unfold tmO at h
    by_cases g : tK tx n (t + 2) = 2
    · rw [if_pos g] at h
      by_cases k : 1 ≤ tV tx n (t + 2) ∧ tV tx n (t + 2) ≤ 9
      · rw [if_pos k] at h
        by_cases m : 9 < sumN (hN N (N 2)) 8 + (tV tx n (t + 2)).toNat
        · rw [if_pos m] at h
          unfold stpO at h
          cases h
        · rw [if_neg m] at h
          cases h
          exact ⟨wfp_cm hW hc (by omega), fun j hj => cuN_lo hj, by show t + 1 ≤ t + 3; omega, Nat.le_refl _⟩
      · rw [if_neg k] at h
        unfold stpO at h
        cases h
    · rw [if_neg g] at h
      unfold stpO at h
      cases h
  · rw [if_neg w] at h
    cases h
    exact ⟨wfp_cm hW hc (by omega), fun j hj => cuN_lo hj, Nat.le_refl _, by show t + 1 ≤ t + 3; omega⟩
set_option maxRecDepth 20000 in
theorem purse_fin {tx : Nat → Int} {n i t : Nat} {N : Tn} (hn : n ≤ 700) (ht : t ≤ 710) (hi : i ≤ t) (h1 : 0 < N 1) (h0 : N 0 ≤ 1000) (hW : WFP N (N 2 + 1) (N 3)) (q : tK tx n t ≠ 2) : ∃ r : Po, PC tx n (thE tx n r) i t N ∧ PR tx n r t N ∧ (∀ p, r = .inl p → WFP p.1 (p.1 2) (p.1 3) ∧ p.1 0 = N 0 ∧ 0 < p.1 1 ∧ t ≤ p.2) := by
  have h5 := (wfp_1 hW).2.1
  refine ⟨.inl (updN N 2 (N 2 + 1), t), ?_, ?_, fun p hp => ?_⟩
  · intro σ h
    obtain ⟨v, σ1, σ2, c1, c2, c3⟩ := end_up (d := 8) (i := 2) (by decide) (Or.inl rfl) (show t < 100000 by omega) h0 (by omega) h
    refine ⟨σ2, ?_, c2⟩
    intro X Xr Xt hC hr
    have fin : ∃ (v : Int) (σ2 : Sg), Ct 8 MX5_endLine [rV 14 1] σ (.inl [iV v]) σ2 ∧ (if v = 0 then (Xr [iV 0] σ2) else (Xr [iV 1] (upS σ2 14 2 (w32 (σ2 14 2 + 1))))) := by
      refine ⟨v, σ1, c1, ?_⟩
      have hr2 : Xr [iV (flg (eoN tx n t (updN N 2 (N 2 + 1))))] σ2 := hr
      rcases c3 with ⟨a1, a2, a3⟩ | ⟨a1, a2, a3⟩
      · rw [if_pos a1]
        rw [a3, a2] at hr2
        exact hr2
      · rw [if_neg (by omega)]
        rw [a3, a2] at hr2
        exact hr2
    refine bX5_readPurse_29 hC ?_
    by_cases z : i < 700
    · rw [if_pos (show (i : Int) < 700 by omega)]
      refine ⟨_, isNext_C (by decide) 2 h.1, ?_⟩
      rw [decide_eq_false (by omega), if_pos (by decide)]
      exact fin
    · rw [if_neg (show ¬ (i : Int) < 700 by omega)]
      exact fin
  · intro τ h
    have a2 : τ 68 2 = (N 2 : Int) := h.2.1 2 (by decide)
    have e1 : upS τ 68 2 (w32 (τ 68 2 + 1)) = rwS τ 68 0 (updN N 2 (N 2 + 1)) := by
      have := rwS_up (σ := τ) (a := 68) (i := 2) (v := N 2 + 1) (M := N) (by decide)
      rw [rwS_id h.2.1] at this
      rw [a2, w32_s (show N 2 < 2147483647 by omega)]
      exact this
    obtain ⟨d1, d2⟩ := rp_rw (M := updN N 2 (N 2 + 1)) h
    refine ⟨_, ?_, d2, d1⟩
    intro X Xr Xt hC hr x2
    refine bX11_readPurse_63 hC ?_
    refine ⟨_, isNumber_R (by decide) h.1 h.2.2, ?_⟩
    rw [decide_eq_false q, if_pos (by decide), if_pos h.2.2, e1]
    exact hr
  · cases hp
    refine ⟨?_, ?_, ?_, Nat.le_refl _⟩
    · show WFP (updN N 2 (N 2 + 1)) (updN N 2 (N 2 + 1) 2) (updN N 2 (N 2 + 1) 3)
      rw [updN_eq, updN_ne (show (3 : Nat) ≠ 2 by decide)]
      unfold WFP
      rw [updN_2]
      exact hW
    · show updN N 2 (N 2 + 1) 0 = N 0
      exact updN_ne (by decide)
    · show 0 < updN N 2 (N 2 + 1) 1
      rw [updN_ne (by decide)]
      exact h1
theorem purse_loop {tx : Nat → Int} {n : Nat} (hn : n ≤ 700) : ∀ (g i t : Nat) (N : Tn), 710 ≤ t + g → t ≤ 710 → i ≤ t → 0 < N 1 → N 0 ≤ 1000 → WFP N (N 2 + 1) (N 3) → ∃ r : Po, PC tx n (thE tx n r) i t N ∧ PR tx n r t N ∧ (∀ p, r = .inl p → WFP p.1 (p.1 2) (p.1 3) ∧ p.1 0 = N 0 ∧ 0 < p.1 1 ∧ t ≤ p.2) := by
  intro g
  induction g with
  | zero =>
    intro i t N hg ht hi h1 h0 hW
    refine purse_fin hn ht hi h1 h0 hW (fun q => ?_)
    have := tK_lt (tx := tx) (n := n) (t := t) (by omega)
    omega
  | succ g ih =>
    intro i t N hg ht hi h1 h0 hW
    by_cases q : tK tx n t = 2
    · have htn := tK_lt (tx := tx) (n := n) (t := t) (by omega)
      have hq2 : (tK tx n t : Int) = 2 := by omega
      have step : ∀ σ, CP σ tx n t N → ∀ (X : Nat → List Vv → List Vv → Sg → Prop) (Xr : List Vv → Sg → Prop) (Xt : Nat → Sg → Prop), Clo (Ct 8) 5 cX5_readPurse (some .boolean) X Xr Xt → (∃ (v3 : Int) (σ3 : Sg), Ct 8 MX5_readPursed [rV 14 1] σ (.inl [iV v3]) σ3 ∧ (if v3 = 0 then (Xr [iV 0] σ3) else (X 29 [rV 14 1, iV ((i + 1 : Nat) : Int)] [] σ3))) → X 29 [rV 14 1, iV (i : Int)] [] σ := by
        intro σ h X Xr Xt hC hx
        refine bX5_readPurse_29 hC ?_
        rw [if_pos (by omega)]
        refine ⟨_, isNext_C (by decide) 2 h.1, ?_⟩
        rw [decide_eq_true hq2, if_neg (by decide), w32_s (show i < 2147483647 by omega)]
        exact hx
      cases ho : puO tx n t N with
      | inr e =>
        refine ⟨.inr e, ?_, ?_, fun p hp => by cases hp⟩
        · intro σ h
          obtain ⟨σ1, c1, c2⟩ := readPursed_C (d := 8) (by decide) (show t < 100000 by omega) hW q h
          rw [ho] at c1 c2
          refine ⟨σ1, ?_, c2⟩
          intro X Xr Xt hC hr
          refine step σ h X Xr Xt hC ?_
          refine ⟨_, _, c1, ?_⟩
          rw [if_pos (show flg (.inr e) = 0 from rfl)]
          exact hr
        · intro τ h
          obtain ⟨τ1, c1, c2⟩ := purse_R hn h q hW
          rw [ho] at c1 c2
          refine ⟨τ1, ?_, c2⟩
          intro X Xr Xt hC hr
          exact c1 X Xr Xt hC hr
      | inl p =>
        obtain ⟨i1, i2, i3, i4⟩ := puO_inl hW ho
        have e0 := i2 0 (by decide)
        have e1 := i2 1 (by decide)
        have e2 := i2 2 (by decide)
        have e3 := i2 3 (by decide)
        obtain ⟨r, rC, rR, rW⟩ := ih (i + 1) p.2 p.1 (by omega) (by omega) (by omega) (by omega) (by omega) (by rw [e2, e3]; exact i1)
        refine ⟨r, ?_, ?_, fun y hy => ?_⟩
        · intro σ h
          obtain ⟨σ1, c1, c2⟩ := readPursed_C (d := 8) (by decide) (show t < 100000 by omega) hW q h
          rw [ho] at c1 c2
          obtain ⟨σ2, d1, d2⟩ := rC σ1 c2.2
          refine ⟨σ2, ?_, d2.after c2.1⟩
          intro X Xr Xt hC hr
          refine step σ h X Xr Xt hC ?_
          refine ⟨_, _, c1, ?_⟩
          rw [if_neg (show ¬ flg (.inl p) = 0 from (by decide : ¬ (1 : Int) = 0))]
          exact d1 X Xr Xt hC hr
        · intro τ h
          obtain ⟨τ1, c1, c2⟩ := purse_R hn h q hW
          rw [ho] at c1 c2
          obtain ⟨τ2, d1, d2⟩ := rR τ1 c2.2
          refine ⟨τ2, ?_, d2.after c2.1⟩
          intro X Xr Xt hC hr
          refine c1 X Xr Xt hC ?_
          have := d1 X Xr Xt hC hr
          rw [e2] at this
          exact this
        · obtain ⟨y1, y2, y3, y4⟩ := rW y hy
          exact ⟨y1, by omega, y3, by omega⟩
    · exact purse_fin hn ht hi h1 h0 hW q
theorem w12 {k : Nat} (h : k < 100) : w32 (12 + w32 (8 * (k : Int))) = ((12 + 8 * k : Nat) : Int) := by unfold w32; omega
theorem purse_pair {tx : Nat → Int} {n t : Nat} {N : Tn} (hn : n ≤ 700) (q : tK tx n t = 6) (h1 : 0 < N 1) (h0 : N 0 ≤ 1000) (hW : WFP N (N 2) (N 3)) : ∃ r : Po, (∀ σ, CP σ tx n t N → ∃ σ1, Ct 9 MX5_readPurse [rV 14 1] σ (.inl [iV (flg (thE tx n r))]) σ1 ∧ CQ σ σ1 tx n (thE tx n r)) ∧ (∀ τ, RP τ tx n t N → ∃ τ1, Ct 9 MX11_readPurse [rV 20 66] τ (.inl []) τ1 ∧ RQ τ τ1 tx n r) ∧ (∀ p, r = .inl p → WFP p.1 (p.1 2) (p.1 3) ∧ p.1 0 = N 0 ∧ 0 < p.1 1 ∧ t < p.2) := by
  have htn := tK_lt (tx := tx) (n := n) (t := t) (by omega)
  have h5 := (wfp_1 hW).2.1
  have h6 := (wfp_1 hW).2.2.1
  by_cases f : N 2 = 5
  · refine ⟨stpO tx n t 4, ?_, ?_, fun p hp => by unfold stpO at hp; cases hp⟩
    · intro σ h
      have a2 : σ 14 2 = (N 2 : Int) := h.2.1.1 2 (by decide)
      obtain ⟨σ1, c1, c2⟩ := stop_CQ (d := 8) (k := 4) (by decide) (by decide) h.1
      refine ⟨σ1, eX5_readPurse (d := 8) ?_, c2⟩
      intro X Xr Xt hC hr
      refine bX5_readPurse_0 hC ?_
      rw [a2, if_pos (by omega)]
      exact ⟨_, _, c1, Or.inl rfl, hr⟩
    · intro τ h
      have a2 : τ 68 2 = (N 2 : Int) := h.2.1 2 (by decide)
      have hb : blS τ tx n t 4 66 13 ≠ 0 := blS_bad (by decide)
      refine ⟨_, eX11_readPurse (d := 8) ?_, blS_RQ (k := 4) (by decide)⟩
      intro X Xr Xt hC hr
      refine bX11_readPurse_0 hC ?_
      rw [a2, if_pos (by omega)]
      refine ⟨_, blames_R (by decide) h.1 h.2.2, ?_⟩
      rw [if_neg hb]
      exact hr
  · have hW1 : WFP N (N 2 + 1) (N 3) := wfp_23 hW (by omega) (Nat.le_refl _) (by omega) h6 (fun _ => h1)
    have hz : ∀ c, c < 8 → N (12 + 8 * N 2 + c) = 0 := fun c hc => wfp_hz hW (by omega) hc (Or.inl (Nat.le_refl _))
    obtain ⟨r, rC, rR, rW⟩ := purse_loop (tx := tx) hn 710 0 (t + 1) N (by omega) (by omega) (by omega) h1 h0 hW1
    refine ⟨r, ?_, ?_, fun p hp => ?_⟩
    · intro σ h
      have a2 : σ 14 2 = (N 2 : Int) := h.2.1.1 2 (by decide)
      have hu : CP (upS σ 1 4 (w32 (σ 1 4 + 1))) tx n (t + 1) N ∧ FcP σ (upS σ 1 4 (w32 (σ 1 4 + 1))) := by
        have := cp_up (t2 := t + 1) (M := N) h
        rw [tnS_id h.2.1] at this
        rw [h.1.2, w32_s (show t < 2147483647 by omega)]
        exact this
      obtain ⟨σ1, c1, c2⟩ := rC _ hu.1
      refine ⟨σ1, eX5_readPurse (d := 8) ?_, c2.after hu.2⟩
      intro X Xr Xt hC hr
      refine bX5_readPurse_0 hC ?_
      rw [a2, if_neg (by omega)]
      exact c1 X Xr Xt hC hr
    · intro τ h
      have a2 : τ 68 2 = (N 2 : Int) := h.2.1 2 (by decide)
      obtain ⟨τ1, c1, c2, c3⟩ := rp_reads (d := 8) (by decide) hn h
      have b2 : τ1 68 2 = (N 2 : Int) := c2.2.1 2 (by decide)
      obtain ⟨τ2, d1, d2⟩ := rR τ1 c2
      refine ⟨τ2, eX11_readPurse (d := 8) ?_, d2.after c3⟩
      intro X Xr Xt hC hr
      refine bX11_readPurse_0 hC ?_
      rw [a2, if_neg (by omega), if_pos h.2.2]
      refine ⟨_, c1, ?_⟩
      rw [b2, w12 (show N 2 < 100 by omega)]
      have key : ∀ k : Nat, k ≤ 8 → X 42 [rV 20 66, iV ((12 + 8 * N 2 : Nat) : Int), iV (k : Int), uV] [] τ1 := by
        refine loop_up (n := 8) (P := fun k : Nat => X 42 [rV 20 66, iV ((12 + 8 * N 2 : Nat) : Int), iV (k : Int), uV] [] τ1) ?_ ?_
        · refine bX11_readPurse_42 hC ?_
          rw [if_neg (by decide)]
          exact d1 X Xr Xt hC hr _
        · intro k hk ih
          refine bX11_readPurse_42 hC ?_
          have ek : τ1 68 (12 + 8 * N 2 + k) = 0 := by
            have := c2.2.1 (12 + 8 * N 2 + k) (by omega)
            rw [Nat.zero_add, hz k hk] at this
            exact this
          rw [if_pos (by omega), ← Int.natCast_add, w32_n (show 12 + 8 * N 2 + k < 2147483648 by omega), Int.toNat_natCast, ups_self ek, w32_s (show k < 2147483647 by omega)]
          exact ⟨by omega, ih⟩
      exact key 0 (Nat.zero_le _)
    · obtain ⟨y1, y2, y3, y4⟩ := rW p hp
      exact ⟨y1, y2, y3, by omega⟩

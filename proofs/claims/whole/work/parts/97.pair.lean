/-! PAIRS: grows -/
def GwC (N : Tn) (x1 n : Int) (v : Int) (i f : Nat) (S : Qs) : Prop := ∀ σ, CR N σ S → CK N σ → RowT σ 7 N → σ 57 1 = (f : Int) → ∃ σ1, (∀ (X : Nat → List Vv → List Vv → Sg → Prop) (Xr : List Vv → Sg → Prop) (Xt : Nat → Sg → Prop), Clo (Ct 7) 10 cX10_grows (some .long) X Xr Xt → Xr [lV v] σ1 → X 53 [rV 19 0, iV x1, iV n, lV (mxR N S.1 0 S.2 : Int), uV, iV (i : Int)] [] σ) ∧ FQ σ σ1
def GwR (N : Tn) (x1 n : Int) (v : Int) (i f : Nat) (S : Qs) : Prop := ∀ τ, RR τ S → RowM τ 67 0 N → ∃ τ1, (∀ (X : Nat → List Vv → List Vv → Sg → Prop) (Xr : List Vv → Sg → Prop) (Xt : Nat → Sg → Prop), Clo (Ct 7) 11 cX11_grows (some .long) X Xr Xt → Xr [lV v] τ1 → X 53 [rV 20 66, iV x1, iV n, iV (f : Int), iV (i : Int), uV, uV, uV, uV] [] τ) ∧ FN τ τ1
theorem gw_max {N : Tn} (hW : WFN N) {x1 x2 x3 : Int} {S : Qs} {τ : Sg} (hV : VS N S) (hb : S.2 ≤ 23990) (hR : RR τ S) (hM : RowM τ 67 0 N) {X : Nat → List Vv → List Vv → Sg → Prop} {Xr : List Vv → Sg → Prop} {Xt : Nat → Sg → Prop} (hC : Clo (Ct 7) 11 cX11_grows (some .long) X Xr Xt) (hr : Xr [lV (mxR N S.1 0 S.2 : Int)] τ) : X 157 [rV 20 66, iV x1, iV x2, iV x3, lV 0, uV, iV 0, uV, uV] [] τ := by
  have key : ∀ r i : Nat, i + r = S.2 → X 157 [rV 20 66, iV x1, iV x2, iV x3, lV (mxR N S.1 0 i : Int), uV, iV (i : Int), uV, uV] [] τ := by
    intro r
    induction r with
    | zero =>
      intro i hi
      have hi : i = S.2 := hi
      refine bX11_grows_157 hC ?_
      rw [hR.1, if_neg (by omega), hi]
      exact hr
    | succ r ih =>
      intro i hi
      refine bX11_grows_157 hC ?_
      rw [hR.1, if_pos (by omega), Int.toNat_natCast, hR.2.1 i (by omega)]
      refine ⟨by omega, _, ctX11_worthBy (by decide) hW (hV i (by omega)) hM, ?_⟩
      have e : max (mxR N S.1 0 i) (wD N (S.1 i)) = mxR N S.1 0 (i + 1) := by rw [mxR_s, Nat.zero_add]
      rw [w32_s (by omega), max_nat, e]
      exact ih (i + 1) (by omega)
  exact key S.2 0 (Nat.zero_add _)
set_option maxRecDepth 20000 in
theorem gw_all {N : Tn} (hW : WFN N) {x1 : Int} {n : Nat} (hn : n ≤ 6) : ∀ (r i f : Nat) (S : Qs), i + r = n → VS N S → f ≤ S.2 → S.2 ≤ 3000 → ∃ v : Int, GwC N x1 (n : Int) v i f S ∧ GwR N x1 (n : Int) v i f S := by
  intro r
  induction r with
  | zero =>
    intro i f S hi hV hf hb
    refine ⟨(mxR N S.1 0 S.2 : Int), ?_, ?_⟩
    · intro σ hc hk hR hf1
      refine ⟨σ, ?_, FQ.refl σ⟩
      intro X Xr Xt hC hr
      refine bX10_grows_53 hC ?_
      rw [if_neg (by omega)]
      exact hr
    · intro τ hR hM
      refine ⟨τ, ?_, FN.refl τ⟩
      intro X Xr Xt hC hr
      refine bX11_grows_53 hC ?_
      rw [if_neg (by omega)]
      exact gw_max hW hV (by omega) hR hM hC hr
  | succ r ih =>
    intro i f S hi hV hf hb
    obtain ⟨tv, tg⟩ := stI_gr hW hV hf
    have tg1 := tg.1
    have tg2 := tg.2.1
    have tg3 := tg.2.2
    obtain ⟨T, hT⟩ : ∃ T, T = stI N (S.2 - f) f S := ⟨_, rfl⟩
    rw [← hT] at tv tg1 tg2 tg3
    clear tg
    have hmx : max (mxR N S.1 0 S.2) (mxR N T.1 S.2 (T.2 - S.2)) = mxR N T.1 0 T.2 := by
      rw [mxR_congr S.2 (fun i hi => (tg3 i hi).symm), mxR_add, show S.2 + (T.2 - S.2) = T.2 by omega]
    have stepC : ∀ σ, CR N σ S → CK N σ → RowT σ 7 N → σ 57 1 = (f : Int) → ∃ σ2, (∀ (X : Nat → List Vv → List Vv → Sg → Prop) (Xr : List Vv → Sg → Prop) (Xt : Nat → Sg → Prop), Clo (Ct 7) 10 cX10_grows (some .long) X Xr Xt → (if 3000 < T.2 then Xr [lV (-1000)] σ2 else X 53 [rV 19 0, iV x1, iV (n : Int), lV (mxR N T.1 0 T.2 : Int), uV, iV ((i + 1 : Nat) : Int)] [] σ2) → X 53 [rV 19 0, iV x1, iV (n : Int), lV (mxR N S.1 0 S.2 : Int), uV, iV (i : Int)] [] σ) ∧ CR N σ2 T ∧ CK N σ2 ∧ RowT σ2 7 N ∧ σ2 57 1 = (S.2 : Int) ∧ FQ σ σ2 := by
      intro σ hc hk hR hf1
      obtain ⟨σ2, s1, s2, s3, s4, s5⟩ := ctX6_step (d := 7) (by decide) hW hV hc hk hf1 hf hb
      rw [← hT] at s2
      have hR2 : RowT σ2 7 N := RowT_fr hR (fun i hi => s5 _ (by omega))
      refine ⟨σ2, ?_, s2, s3, hR2, s4, s5⟩
      intro X Xr Xt hC hx
      refine bX10_grows_53 hC ?_
      rw [if_pos (by omega)]
      refine ⟨_, s1, ?_⟩
      rw [s2.1]
      by_cases q : 3000 < T.2
      · rw [if_pos q] at hx
        rw [if_pos (by omega)]
        exact hx
      · rw [if_neg q] at hx
        rw [if_neg (by omega)]
        refine ⟨_, ctX6_dearest (by decide) hW tv s2 hR2 s4 tg1 (by omega), ?_⟩
        rw [max_nat, hmx, w32_s (by omega)]
        exact hx
    have stepR : ∀ τ, RR τ S → RowM τ 67 0 N → ∃ τ2, (∀ (X : Nat → List Vv → List Vv → Sg → Prop) (Xr : List Vv → Sg → Prop) (Xt : Nat → Sg → Prop), Clo (Ct 7) 11 cX11_grows (some .long) X Xr Xt → (if 3000 < T.2 then Xr [lV (-1000)] τ2 else X 53 [rV 20 66, iV x1, iV (n : Int), iV (S.2 : Int), iV ((i + 1 : Nat) : Int), uV, uV, uV, uV] [] τ2) → X 53 [rV 20 66, iV x1, iV (n : Int), iV (f : Int), iV (i : Int), uV, uV, uV, uV] [] τ) ∧ RR τ2 T ∧ RowM τ2 67 0 N ∧ FN τ τ2 := by
      intro τ hR hM
      obtain ⟨τ2, s1, s2, s3⟩ := r_grows hW (x1 := x1) (x2 := (n : Int)) (x4 := (f : Int)) (x5 := (i : Int)) (to := S.2) hb (S.2 - f) f τ S (by omega) hR hM hV (Nat.le_refl _) (by omega)
      rw [← hT] at s2
      refine ⟨τ2, ?_, s2, RowM_cell hM (s3.1 67 (by decide) (by decide) (by decide)), s3⟩
      intro X Xr Xt hC hx
      refine bX11_grows_53 hC ?_
      rw [if_pos (by omega), hR.1]
      refine s1 X Xr Xt hC ?_
      refine bX11_grows_68 hC ?_
      rw [if_neg (by omega), s2.1, w32_s (by omega)]
      by_cases q : 3000 < T.2
      · rw [if_pos q] at hx
        rw [if_pos (by omega)]
        exact hx
      · rw [if_neg q] at hx
        rw [if_neg (by omega)]
        exact hx
    clear hT
    by_cases q : 3000 < T.2
    · refine ⟨-1000, ?_, ?_⟩
      · intro σ hc hk hR hf1
        obtain ⟨σ2, q1, q2, q3, q4, q5, q6⟩ := stepC σ hc hk hR hf1
        refine ⟨σ2, ?_, q6⟩
        intro X Xr Xt hC hr
        refine q1 X Xr Xt hC ?_
        rw [if_pos q]
        exact hr
      · intro τ hR hM
        obtain ⟨τ2, q1, q2, q3, q4⟩ := stepR τ hR hM
        refine ⟨τ2, ?_, q4⟩
        intro X Xr Xt hC hr
        refine q1 X Xr Xt hC ?_
        rw [if_pos q]
        exact hr
    · obtain ⟨v, vC, vR⟩ := ih (i + 1) S.2 T (by omega) tv tg1 (by omega)
      refine ⟨v, ?_, ?_⟩
      · intro σ hc hk hR hf1
        obtain ⟨σ2, q1, q2, q3, q4, q5, q6⟩ := stepC σ hc hk hR hf1
        obtain ⟨σ1, p1, p2⟩ := vC σ2 q2 q3 q4 q5
        refine ⟨σ1, fun X Xr Xt hC hr => q1 X Xr Xt hC ?_, q6.trans p2⟩
        rw [if_neg q]
        exact p1 X Xr Xt hC hr
      · intro τ hR hM
        obtain ⟨τ2, q1, q2, q3, q4⟩ := stepR τ hR hM
        obtain ⟨τ1, p1, p2⟩ := vR τ2 q2 q3
        refine ⟨τ1, fun X Xr Xt hC hr => q1 X Xr Xt hC ?_, q4.trans p2⟩
        rw [if_neg q]
        exact p1 X Xr Xt hC hr
theorem jt_grows {ω : Nat → Int} {σ : Sg} (hI : Inv ω σ) (hω : wyT ω) (x n : Int) : Jt ω MX10_grows MX11_grows [iV x, iV n] lV cdNI σ := by
  obtain ⟨N, hQ⟩ := hI.1
  have hW := hQ.2.2
  have h5 := hW.1.2.1
  have h8 := hW.1.1
  by_cases h : 0 ≤ x ∧ x < N 2
  · by_cases hn : 0 ≤ n ∧ n ≤ 6
    · obtain ⟨p, hp⟩ := z_nat h.1
      subst hp
      obtain ⟨m, hm⟩ := z_nat hn.1
      subst hm
      have hp2 : p < N 2 := by omega
      have hw62 : wyT (σ 62) := by rw [hI.2.2.2.2]; exact hω
      obtain ⟨σ2, b1, b2, b3, b4, b5⟩ := ctX6_begin (d := 7) (p := p) (by decide) hW hp2 hQ.1 hw62
      have hR2 : RowT σ2 7 N := RowT_fr hQ.1 (fun i hi => b5 _ (by omega))
      have hV0 : VS N (S0 N p) := S0_vs hW (by omega)
      obtain ⟨v, vC, vR⟩ := gw_all hW (x1 := (p : Int)) (n := m) (by omega) m 0 0 (S0 N p) (Nat.zero_add _) hV0 (Nat.zero_le _) (by rw [S0_2]; decide)
      obtain ⟨σ3, p1, p2⟩ := vC σ2 b2 b3 hR2 b4
      have hfc : FrC σ σ3 := (FQ_frc b5).trans (FQ_frc p2)
      have hT7 : ∀ i, i ≤ 6 → σ3 (7 + i) = σ (7 + i) := fun i hi => by rw [p2 _ (by omega), b5 _ (by omega)]
      refine Or.inl ⟨v, σ3, ?_, ?_⟩
      · refine (eX10_grows (d := 7) ?_).mono (by decide)
        intro X Xr Xt hC hr
        refine bX10_grows_0 hC ?_
        refine Or.inl ⟨ctX10_needPerson (by decide) hQ.1 h, ?_⟩
        rw [if_neg (by omega), if_neg (by omega)]
        exact ⟨_, b1, _, ctX6_dearest (by decide) hW hV0 b2 hR2 b4 (Nat.zero_le _) (by rw [S0_2]; decide), p1 X Xr Xt hC hr⟩
      · intro τ ha
        have hM0 := RowM_c hQ.2.1 hfc ha
        have hM1 : RowM (upS τ 66 5 0) 67 0 N := RowM_ups hM0 (by decide)
        obtain ⟨τ2, s1, s2, s3⟩ := ctX11_beginsMet (d := 7) (by decide) hW hp2 hM1
        have hM2 : RowM τ2 67 0 N := RowM_cell hM1 (s3.1 67 (by decide) (by decide) (by decide))
        obtain ⟨τ3, q1, q2⟩ := vR τ2 s2 hM2
        refine ⟨τ3, ?_, by rw [q2.2 5 (by decide), s3.2 5 (by decide)]; exact ups_eq, Inv_c hI hQ hfc hT7 ha (((th_r (FrR.refl τ)).trans (FN_frr s3)).trans (FN_frr q2)) (RowM_cell hM2 (q2.1 67 (by decide) (by decide) (by decide)))⟩
        refine (eX11_grows (d := 7) ?_).mono (by decide)
        intro X Xr Xt hC hr
        refine bX11_grows_0 hC ?_
        refine ⟨_, ctX11_isP (by decide) h5 hM0 h, ?_⟩
        rw [if_neg (by decide)]
        refine ⟨_, ctX11_wi (by decide) (by omega), ?_⟩
        rw [if_neg (by decide), ups_eq, if_neg (by decide)]
        exact ⟨_, s1, q1 X Xr Xt hC hr⟩
    · refine Or.inr ⟨2, σ, by decide, ?_, ?_⟩
      · refine (eX10_grows (d := 7) ?_).mono (by decide)
        intro X Xr Xt hC hr
        refine bX10_grows_0 hC ?_
        refine Or.inl ⟨ctX10_needPerson (by decide) hQ.1 h, ?_⟩
        by_cases q : n < 0
        · rw [if_pos q]; exact hr
        · rw [if_neg q, if_pos (by omega)]; exact hr
      · intro τ ha
        have hM0 := (InvN_ag hQ ha).2.1
        have hM : ∀ v, RowM (upS τ 66 5 v) 67 0 N := fun v => RowM_ups hM0 (by decide)
        refine ⟨0, upS τ 66 5 2, ?_, ups_eq, Inv_fr hI (th_fr ha)⟩
        refine (eX11_grows (d := 7) ?_).mono (by decide)
        intro X Xr Xt hC hr
        refine bX11_grows_0 hC ?_
        refine ⟨_, ctX11_isP (by decide) h5 hM0 h, ?_⟩
        rw [if_neg (by decide)]
        refine ⟨_, ctX11_wi_no (by decide) (by omega), ?_⟩
        rw [if_pos (by decide), ups_eq, if_pos (by decide)]
        exact hr
  · refine Or.inr ⟨1, σ, by decide, ?_, ?_⟩
    · refine (eX10_grows (d := 7) ?_).mono (by decide)
      intro X Xr Xt hC hr
      refine bX10_grows_0 hC ?_
      exact Or.inr ⟨_, ctX10_needPerson_no (by decide) hQ.1 h, hr⟩
    · intro τ ha
      have hM0 := (InvN_ag hQ ha).2.1
      have hM : ∀ v, RowM (upS τ 66 5 v) 67 0 N := fun v => RowM_ups hM0 (by decide)
      refine ⟨0, upS τ 66 5 1, ?_, ups_eq, Inv_fr hI (th_fr ha)⟩
      refine (eX11_grows (d := 7) ?_).mono (by decide)
      intro X Xr Xt hC hr
      refine bX11_grows_0 hC ?_
      refine ⟨_, ctX11_isP_no (by decide) h5 hM0 h, ?_⟩
      rw [if_pos (by decide), ups_eq, if_pos (by decide)]
      exact hr

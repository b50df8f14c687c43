/-! PAIRS: may, pay, together -/
theorem w_hold {p k : Nat} (hp : p < 5) (hk : k < 8) : w32 (w32 (12 + w32 (8 * (p : Int))) + (k : Int)) = ((12 + (8 * p + k) : Nat) : Int) := by unfold w32; omega
theorem ctX11_pf {d : Nat} {x y : Int} (hd : 3 ≤ d) {N : Tn} (h2 : N 2 ≤ 5) {σ : Sg} (hM : RowM σ 67 0 N) : Ct d MX11_payFault [rV 20 66, iV x, iV y] σ (.inl [iV (if (0 ≤ x ∧ x < N 2) ∧ (0 ≤ y ∧ y < N 2) then (if x = y then 2 else 0) else 1)]) σ := by
  refine (eX11_payFault (d := 2) ?_).mono hd
  intro X Xr Xt hC hr
  refine bX11_payFault_0 hC ?_
  by_cases a : 0 ≤ x ∧ x < N 2
  · refine ⟨_, ctX11_isP (by decide) h2 hM a, ?_⟩
    rw [if_neg (by decide)]
    by_cases b : 0 ≤ y ∧ y < N 2
    · refine ⟨_, ctX11_isP (by decide) h2 hM b, ?_⟩
      rw [if_neg (by decide)]
      rw [if_pos ⟨a, b⟩] at hr
      by_cases c : x = y
      · rw [if_pos c] at hr ⊢; exact hr
      · rw [if_neg c] at hr ⊢; exact hr
    · refine ⟨_, ctX11_isP_no (by decide) h2 hM b, ?_⟩
      rw [if_pos (by decide)]
      rw [if_neg (fun q => b q.2)] at hr
      exact hr
  · refine ⟨_, ctX11_isP_no (by decide) h2 hM a, ?_⟩
    rw [if_pos (by decide)]
    rw [if_neg (fun q => a q.1)] at hr
    exact hr
theorem c53 {σ σ1 : Sg} (h : ∀ b, b ≠ 53 → σ1 b = σ b) : FrC σ σ1 := (FrC.refl σ).cell (by decide) (by decide) h
theorem r73 {σ σ1 : Sg} (h : ∀ b, b ≠ 73 → σ1 b = σ b) : FrR σ σ1 := (FrR.refl σ).cell (by decide) (by decide) h
theorem th_r {σ τ : Sg} {v : Int} (h : FrR σ τ) : FrR σ (upS τ 66 5 v) := h.ups66 (by decide) (by decide) (by decide)
theorem Inv_c {ω : Nat → Int} {σ σ1 τ σ2 : Sg} {N : Tn} (hI : Inv ω σ) (hQ : InvN σ N) (c : FrC σ σ1) (hT : ∀ i, i ≤ 6 → σ1 (7 + i) = σ (7 + i)) (ha : ag80 σ1 τ) (r : FrR τ σ2) (hM : RowM σ2 67 0 N) : Inv ω σ2 := wr_end hI c (RowT_fr hQ.1 hT) ha r hM hQ.2.2
theorem jt_may {ω : Nat → Int} {σ : Sg} (hI : Inv ω σ) (x y z : Int) (hz : in64 z) : Jt ω MX10_may MX11_may [iV x, iV y, lV z] iV cdNI σ := by
  obtain ⟨N, hQ⟩ := hI.1
  have hW := hQ.2.2
  have h5 := hW.1.2.1
  have h8 := hW.1.1
  by_cases h : (0 ≤ x ∧ x < N 2) ∧ (0 ≤ y ∧ y < N 2)
  · by_cases e : x = y
    · refine Or.inr ⟨2, σ, by decide, ?_, ?_⟩
      · refine (eX10_may (d := 7) ?_).mono (by decide)
        intro X Xr Xt hC hr
        refine bX10_may_0 hC ?_
        exact Or.inr ⟨_, ctX10_needTwo_2 (by decide) hQ.1 h.1 h.2 e, hr⟩
      · intro τ ha
        have hM0 := (InvN_ag hQ ha).2.1
        have hM : ∀ v, RowM (upS τ 66 5 v) 67 0 N := fun v => RowM_ups hM0 (by decide)
        refine ⟨0, upS τ 66 5 2, ?_, ups_eq, Inv_fr hI (th_fr ha)⟩
        refine (eX11_may (d := 7) ?_).mono (by decide)
        intro X Xr Xt hC hr
        refine bX11_may_0 hC ?_
        refine ⟨_, ctX11_pf (by decide) h5 hM0, ?_⟩
        rw [if_pos h, if_pos e, ups_eq, if_pos (by decide)]
        exact hr
    · obtain ⟨h, g⟩ := h
      obtain ⟨p, hp⟩ := z_nat h.1
      subst hp
      obtain ⟨q, hq⟩ := z_nat g.1
      subst hq
      obtain ⟨σ1, c1, c2, c3⟩ := ctX10_payFault (d := 7) (p := p) (q := q) (by decide) hW (by omega) (by omega) hz hQ.1
      refine Or.inl ⟨(pfN N p q z : Int), σ1, ?_, ?_⟩
      · refine (eX10_may (d := 7) ?_).mono (by decide)
        intro X Xr Xt hC hr
        refine bX10_may_0 hC ?_
        exact Or.inl ⟨ctX10_needTwo (by decide) hQ.1 h g e, _, _, c1, hr⟩
      · intro τ ha
        have hM0 := RowM_c hQ.2.1 (c53 c2) ha
        have hM1 : RowM (upS τ 66 5 0) 67 0 N := RowM_ups hM0 (by decide)
        obtain ⟨σ2, r1, r2, r3⟩ := ctX11_whyNot (d := 7) (p := p) (q := q) (by decide) hW (by omega) (by omega) hz hM1
        refine ⟨σ2, ?_, by rw [r2 66 (by decide)]; exact ups_eq, Inv_c hI hQ (c53 c2) (fun i hi => c2 _ (by omega)) ha ((th_r (FrR.refl τ)).trans (r73 r2)) (RowM_r hM1 (r2 67 (by decide)))⟩
        refine (eX11_may (d := 7) ?_).mono (by decide)
        intro X Xr Xt hC hr
        refine bX11_may_0 hC ?_
        refine ⟨_, ctX11_pf (by decide) h5 hM0, ?_⟩
        rw [if_pos (And.intro h g), if_neg e, ups_eq, if_neg (by decide)]
        exact ⟨_, _, r1, hr⟩
  · refine Or.inr ⟨1, σ, by decide, ?_, ?_⟩
    · refine (eX10_may (d := 7) ?_).mono (by decide)
      intro X Xr Xt hC hr
      refine bX10_may_0 hC ?_
      exact Or.inr ⟨_, ctX10_needTwo_1 (by decide) hQ.1 h, hr⟩
    · intro τ ha
      have hM0 := (InvN_ag hQ ha).2.1
      have hM : ∀ v, RowM (upS τ 66 5 v) 67 0 N := fun v => RowM_ups hM0 (by decide)
      refine ⟨0, upS τ 66 5 1, ?_, ups_eq, Inv_fr hI (th_fr ha)⟩
      refine (eX11_may (d := 7) ?_).mono (by decide)
      intro X Xr Xt hC hr
      refine bX11_may_0 hC ?_
      refine ⟨_, ctX11_pf (by decide) h5 hM0, ?_⟩
      rw [if_neg h, ups_eq, if_pos (by decide)]
      exact hr
theorem sumN_8 {f : Nat → Nat} {n : Nat} (h : n ≤ 8) (hz : ∀ j, n ≤ j → f j = 0) : sumN f 8 = sumN f n := sumN_zero h (fun i h1 _ => hz i h1)
theorem aN_z {N : Tn} {n j : Nat} (h : N 1 ≤ j) : aN N n j = 0 := by unfold aN; rw [if_neg (by omega)]
theorem jt_pay {ω : Nat → Int} {σ : Sg} (hI : Inv ω σ) (x y z : Int) (hz : in64 z) : Jt ω MX10_pay MX11_pay [iV x, iV y, lV z] iV cdNI σ := by
  obtain ⟨N, hQ⟩ := hI.1
  have hW := hQ.2.2
  have h5 := hW.1.2.1
  have h8 := hW.1.1
  by_cases h : (0 ≤ x ∧ x < N 2) ∧ (0 ≤ y ∧ y < N 2)
  · by_cases e : x = y
    · refine Or.inr ⟨2, σ, by decide, ?_, ?_⟩
      · refine (eX10_pay (d := 7) ?_).mono (by decide)
        intro X Xr Xt hC hr
        refine bX10_pay_0 hC ?_
        exact Or.inr ⟨_, ctX10_needTwo_2 (by decide) hQ.1 h.1 h.2 e, hr⟩
      · intro τ ha
        have hM0 := (InvN_ag hQ ha).2.1
        have hM : ∀ v, RowM (upS τ 66 5 v) 67 0 N := fun v => RowM_ups hM0 (by decide)
        refine ⟨0, upS τ 66 5 2, ?_, ups_eq, Inv_fr hI (th_fr ha)⟩
        refine (eX11_pay (d := 7) ?_).mono (by decide)
        intro X Xr Xt hC hr
        refine bX11_pay_0 hC ?_
        refine ⟨_, ctX11_pf (by decide) h5 hM0, ?_⟩
        rw [if_pos h, if_pos e, ups_eq, if_pos (by decide)]
        exact hr
    · obtain ⟨h, g⟩ := h
      obtain ⟨p, hp⟩ := z_nat h.1
      subst hp
      obtain ⟨q, hq⟩ := z_nat g.1
      subst hq
      obtain ⟨σ1, c1, c2, c3⟩ := ctX10_payFault (d := 7) (p := p) (q := q) (by decide) hW (by omega) (by omega) hz hQ.1
      have hR1 : RowT σ1 7 N := RowT_fr hQ.1 (fun i hi => c2 _ (by omega))
      by_cases w : pfN N p q z = 0
      · have w2 := w
        unfold pfN at w2
        have w3 : PQ N z = true ∧ haB N (aN N z.toNat) (2 ^ p) = true ∧ mN N q + sumN (aN N z.toNat) 8 ≤ 9 := by
          cases e1 : PQ N z with
          | false => rw [e1, if_pos rfl] at w2; omega
          | true =>
            rw [e1, if_neg (by decide)] at w2
            cases e2 : haB N (aN N z.toNat) (2 ^ p) with
            | false => rw [e2, if_pos rfl] at w2; omega
            | true =>
              rw [e2, if_neg (by decide)] at w2
              refine ⟨rfl, rfl, ?_⟩
              by_cases q9 : 9 < mN N q + sumN (aN N z.toNat) 8
              · rw [if_pos q9] at w2; omega
              · omega
        have hp2 : p < N 2 := by omega
        have hle : ∀ c, c < N 1 → aN N z.toNat c ≤ hN N p c := fun c hc => by
          have := haB_t.mp w3.2.1 c hc
          rw [hsN_one, if_pos hp2] at this
          exact this
        have hne : p ≠ q := fun q => e (by rw [q])
        have hs8 := sumN_8 (f := aN N z.toNat) h8 (fun j hj => aN_z hj)
        have c3 := c3 (PQ_1 w3.1)
        have hWM := mvN_wf hW hp2 (show q < N 2 by omega) hne (fun j hj => aN_z (n := z.toNat) hj) w3.2.2
        refine Or.inl ⟨(sumN (aN N z.toNat) 8 : Int), tnS σ1 7 (mvN N p q (aN N z.toNat) (N 1)), ?_, ?_⟩
        · refine (eX10_pay (d := 7) ?_).mono (by decide)
          intro X Xr Xt hC hr
          refine bX10_pay_0 hC ?_
          refine Or.inl ⟨ctX10_needTwo (by decide) hQ.1 h g e, _, _, c1, ?_⟩
          rw [w, if_pos (show ((0 : Nat) : Int) = 0 from rfl)]
          refine ⟨_, _, ctX8_handOver (by decide) hW hp2 (by omega) hne hR1 c3 hle, ?_⟩
          rw [hs8] at hr
          exact hr
        · intro τ ha
          have hcf := (c53 c2).tn (M := mvN N p q (aN N z.toNat) (N 1))
          have hM0 := RowM_c hQ.2.1 hcf ha
          have hM1 : RowM (upS τ 66 5 0) 67 0 N := RowM_ups hM0 (by decide)
          obtain ⟨σ2, r1, r2, r3⟩ := ctX11_whyNot (d := 7) (p := p) (q := q) (by decide) hW hp2 (by omega) hz hM1
          have hM2 : RowM σ2 67 0 N := RowM_r hM1 (r2 67 (by decide))
          have r3 := r3 (PQ_1 w3.1)
          refine ⟨rwS σ2 67 0 (mvN N p q (aN N z.toNat) (N 1)), ?_, by rw [rwS_cell (by decide), r2 66 (by decide)]; exact ups_eq, wr_end hI hcf (tnS_row _ _ _) ha ((th_r (FrR.refl τ)).trans (r73 r2)).rw67 (rwS_row _ _ _ _) hWM⟩
          refine (eX11_pay (d := 7) ?_).mono (by decide)
          intro X Xr Xt hC hr
          refine bX11_pay_0 hC ?_
          refine ⟨_, ctX11_pf (by decide) h5 hM0, ?_⟩
          rw [if_pos (And.intro h g), if_neg e, ups_eq, if_neg (by decide)]
          refine ⟨_, _, r1, ?_⟩
          rw [w, if_pos (show ((0 : Nat) : Int) = 0 from rfl)]
          have key : ∀ k, k ≤ N 1 → X 40 [rV 20 66, iV (p : Int), iV (q : Int), lV z, uV, iV 0, iV (k : Int)] [] (rwS σ2 67 0 (mvN N p q (aN N z.toNat) k)) := by
            have hwp : ∀ k : Nat, k < 8 → w32 (w32 (12 + w32 (8 * (p : Int))) + (k : Int)) = ((12 + (8 * p + k) : Nat) : Int) := fun k hk => w_hold (by omega) hk
            have hwq : ∀ k : Nat, k < 8 → w32 (w32 (12 + w32 (8 * (q : Int))) + (k : Int)) = ((12 + (8 * q + k) : Nat) : Int) := fun k hk => w_hold (by omega) hk
            have hmv : ∀ k, RowM (rwS σ2 67 0 (mvN N p q (aN N z.toNat) k)) 67 0 (mvN N p q (aN N z.toNat) k) := fun k => rwS_row _ _ _ _
            have h73 : ∀ M j, j < 8 → rwS σ2 67 0 M 73 j = (aN N z.toNat j : Int) := fun M j hj => by rw [rwS_cell (by decide)]; exact r3 j hj
            refine loop_up (P := fun k => X 40 [rV 20 66, iV (p : Int), iV (q : Int), lV z, uV, iV 0, iV (k : Int)] [] (rwS σ2 67 0 (mvN N p q (aN N z.toNat) k))) ?_ ?_
            · refine bX11_pay_40 hC ?_
              refine ⟨_, ctX11_coins (by decide) (hmv _), ?_⟩
              rw [mvN_lo (by omega) (by omega) h8 (Or.inl (by decide)), if_neg (by omega)]
              exact ⟨_, ctX11_askedMany (by decide) (h73 _) (fun j _ => aN_le N _ j), hr⟩
            · intro k hk ih
              have h1 := hle k hk
              have h2 := hN_le hW (show p < 5 by omega) (show k < 8 by omega)
              have h3 := hN_le hW (show q < 5 by omega) (show k < 8 by omega)
              refine bX11_pay_40 hC ?_
              refine ⟨_, ctX11_coins (by decide) (hmv _), ?_⟩
              rw [mvN_lo (by omega) (by omega) (by omega) (Or.inl (by decide)), if_pos (by omega), hwp k (by omega), hwq k (by omega), Int.toNat_natCast, Int.toNat_natCast, Int.toNat_natCast, rwm0 (hmv k) (by omega), h73 _ k (by omega)]
              refine ⟨by omega, by omega, by omega, by omega, by omega, by omega, ?_⟩
              have e1 : mvN N p q (aN N z.toNat) k (12 + (8 * p + k)) = hN N p k := by
                have := mvN_hp (N := N) (a := aN N z.toNat) hne (show k ≤ 8 by omega) (show k < 8 by omega)
                rw [if_neg (by omega)] at this
                unfold hN at this ⊢
                rw [Nat.add_assoc] at this
                rw [Nat.add_assoc]
                exact this
              have e2 : mvN N p q (aN N z.toNat) k (12 + (8 * q + k)) = hN N q k := by
                have := mvN_hq (N := N) (a := aN N z.toNat) hne (show k ≤ 8 by omega) (show k < 8 by omega)
                rw [if_neg (by omega)] at this
                unfold hN at this ⊢
                rw [Nat.add_assoc] at this
                rw [Nat.add_assoc]
                exact this
              rw [e1, show w32 ((hN N p k : Int) - (aN N z.toNat k : Int)) = ((hN N p k - aN N z.toNat k : Nat) : Int) by unfold w32; omega, rwS_up (by omega), rwm0 (rwS_row _ _ _ _) (by omega), h73 _ k (by omega), updN_ne (by omega), e2, ← Int.natCast_add, w32_n (by omega), rwS_up (by omega), mvN_s hne (by omega), w32_s (by omega)]
              exact ih
          have := key 0 (Nat.zero_le _)
          rw [mvN_0, rwS_id hM2] at this
          exact this
      · refine Or.inl ⟨-(pfN N p q z : Int), σ1, ?_, ?_⟩
        · refine (eX10_pay (d := 7) ?_).mono (by decide)
          intro X Xr Xt hC hr
          refine bX10_pay_0 hC ?_
          refine Or.inl ⟨ctX10_needTwo (by decide) hQ.1 h g e, _, _, c1, ?_⟩
          have hle3 : pfN N p q z ≤ 3 := by unfold pfN; split <;> (try split) <;> (try split) <;> decide
          rw [if_neg (by omega), show w32 (-(pfN N p q z : Int)) = -(pfN N p q z : Int) by unfold w32; omega]
          exact hr
        · intro τ ha
          have hM0 := RowM_c hQ.2.1 (c53 c2) ha
          have hM1 : RowM (upS τ 66 5 0) 67 0 N := RowM_ups hM0 (by decide)
          obtain ⟨σ2, r1, r2, r3⟩ := ctX11_whyNot (d := 7) (p := p) (q := q) (by decide) hW (by omega) (by omega) hz hM1
          refine ⟨σ2, ?_, by rw [r2 66 (by decide)]; exact ups_eq, Inv_c hI hQ (c53 c2) (fun i hi => c2 _ (by omega)) ha ((th_r (FrR.refl τ)).trans (r73 r2)) (RowM_r hM1 (r2 67 (by decide)))⟩
          refine (eX11_pay (d := 7) ?_).mono (by decide)
          intro X Xr Xt hC hr
          refine bX11_pay_0 hC ?_
          refine ⟨_, ctX11_pf (by decide) h5 hM0, ?_⟩
          rw [if_pos (And.intro h g), if_neg e, ups_eq, if_neg (by decide)]
          refine ⟨_, _, r1, ?_⟩
          have hle3 : pfN N p q z ≤ 3 := by unfold pfN; split <;> (try split) <;> (try split) <;> decide
          rw [if_neg (by omega), show w32 (-(pfN N p q z : Int)) = -(pfN N p q z : Int) by unfold w32; omega]
          exact hr
  · refine Or.inr ⟨1, σ, by decide, ?_, ?_⟩
    · refine (eX10_pay (d := 7) ?_).mono (by decide)
      intro X Xr Xt hC hr
      refine bX10_pay_0 hC ?_
      exact Or.inr ⟨_, ctX10_needTwo_1 (by decide) hQ.1 h, hr⟩
    · intro τ ha
      have hM0 := (InvN_ag hQ ha).2.1
      have hM : ∀ v, RowM (upS τ 66 5 v) 67 0 N := fun v => RowM_ups hM0 (by decide)
      refine ⟨0, upS τ 66 5 1, ?_, ups_eq, Inv_fr hI (th_fr ha)⟩
      refine (eX11_pay (d := 7) ?_).mono (by decide)
      intro X Xr Xt hC hr
      refine bX11_pay_0 hC ?_
      refine ⟨_, ctX11_pf (by decide) h5 hM0, ?_⟩
      rw [if_neg h, ups_eq, if_pos (by decide)]
      exact hr

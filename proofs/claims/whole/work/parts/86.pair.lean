/-! PAIR: fitting -/
theorem fx_thr {X : Nat → List Vv → List Vv → Sg → Prop} {Xr : List Vv → Sg → Prop} {Xt : Nat → Sg → Prop} {C : Nat → List Vv → Sg → Rs → Sg → Prop} (hC : Clo C 11 cX11_fitting (some .long) X Xr Xt) {x n k : Int} {i : Int} {μ : Sg} (h : 0 < μ 66 5) (hr : Xr [lV 0] μ) : X 48 [rV 20 66, iV x, iV n, iV k, iV i, uV, uV] [] μ := by
  refine bX11_fitting_48 hC ?_
  rw [if_neg (by omega), if_pos h]
  exact hr
theorem jt_fitting {ω : Nat → Int} {σ : Sg} (hI : Inv ω σ) (hS : okS σ) (x y k : Int) (hk : in32 k) : Jt ω MX10_fitting MX11_fitting [iV x, iV y, iV k] lV cdJ σ := by
  obtain ⟨N, hQ⟩ := hI.1
  have hW := hQ.2.2
  have h5 := hW.1.2.1
  have h8 := hW.1.1
  by_cases h : 0 ≤ x ∧ x ≤ 3
  · obtain ⟨p, hp⟩ := z_nat h.1
    subst hp
    have hp4 : p < 4 := by omega
    obtain ⟨m, Z, t1, t2, t3, t4, t5, t6⟩ := ty_get hI hp4
    by_cases s : σ 77 p = -1
    · refine Or.inr ⟨3, σ, by decide, ?_, ?_⟩
      · refine (eX10_fitting (d := 9) ?_).mono (by decide)
        intro X Xr Xt hC hr
        refine bX10_fitting_0 hC ?_
        exact Or.inr ⟨_, ctX10_needTray_3 (by decide) hp4 (by rw [t6]; exact s), hr⟩
      · intro τ ha
        have hM0 := (InvN_ag hQ ha).2.1
        have hM : ∀ v, RowM (upS τ 66 5 v) 67 0 N := fun v => RowM_ups hM0 (by decide)
        refine ⟨0, upS τ 66 5 2, ?_, ups_eq, Inv_fr hI (th_fr ha)⟩
        refine (eX11_fitting (d := 9) ?_).mono (by decide)
        intro X Xr Xt hC hr
        refine bX11_fitting_0 hC ?_
        refine ⟨_, ctX11_trayFault_2 (by decide) hp4 (by rw [ha 77 (by decide)]; exact s), ?_⟩
        rw [ups_eq, if_neg (by decide)]
        exact fx_thr hC (by rw [ups_eq]; decide) hr
    · by_cases g : 1 ≤ y ∧ y ≤ 4
      · obtain ⟨n, hn⟩ := z_nat (show 0 ≤ y by omega)
        subst hn
        have hn14 : 1 ≤ n ∧ n ≤ 4 := by omega
        have htl := ctX9_tells (d := 9) (i := 45 + 2 * p) (m := m) (Z := Z) (σ := σ) (by decide) t2 t1 (fun j hj => by rw [show 45 + 2 * p + 1 = 46 + 2 * p by omega]; exact t4 j hj)
        have hzz : ∀ (τ : Sg), τ 79 = σ 79 → ∀ j, j < 30 → upS τ 66 5 0 79 (30 * p + j) = Z j := fun τ e j hj => by rw [ups_cell (by decide), e]; exact t5 j hj
        -- the reference's look at the numbers
        have look : ∀ (τ : Sg), τ 78 = σ 78 → τ 79 = σ 79 → ∀ (X : Nat → List Vv → List Vv → Sg → Prop) (Xr : List Vv → Sg → Prop) (Xt : Nat → Sg → Prop), Clo (Ct 9) 11 cX11_fitting (some .long) X Xr Xt → m % 2 = 0 → (vdA Z m → X 48 [rV 20 66, iV (p : Int), iV (n : Int), iV k, iV ((2 * (m / 2) : Nat) : Int), uV, uV] [] (upS τ 66 5 0)) → (¬ vdA Z m → Xr [lV 0] (upS (upS τ 66 5 0) 66 5 3)) → X 48 [rV 20 66, iV (p : Int), iV (n : Int), iV k, iV 0, uV, uV] [] (upS τ 66 5 0) := by
          intro τ e78 e79 X Xr Xt hC hev hgood hbad
          have key : ∀ t, t ≤ m / 2 → (∀ u, u < t → vdP Z u) → X 48 [rV 20 66, iV (p : Int), iV (n : Int), iV k, iV ((2 * t : Nat) : Int), uV, uV] [] (upS τ 66 5 0) := by
            refine loop_up (P := fun t => (∀ u, u < t → vdP Z u) → X 48 [rV 20 66, iV (p : Int), iV (n : Int), iV k, iV ((2 * t : Nat) : Int), uV, uV] [] (upS τ 66 5 0)) ?_ ?_
            · intro h1
              exact hgood ⟨hev, h1⟩
            · intro t ht ih h1
              refine bX11_fitting_48 hC ?_
              have z1 := hzz τ e79 (2 * t) (by omega)
              have z2 := hzz τ e79 (2 * t + 1) (by omega)
              have nb : ¬ vdP Z t → X 48 [rV 20 66, iV (p : Int), iV (n : Int), iV k, iV ((2 * (t + 1) : Nat) : Int), uV, uV] [] (upS (upS τ 66 5 0) 66 5 3) := fun hno => fx_thr hC (by rw [ups_eq]; decide) (hbad (fun q => hno (q.2 t ht)))
              rw [if_pos ups_eq, Int.toNat_natCast, ups_cell (show 78 ≠ 66 by decide), e78, t3, if_pos (by omega), w_30 hp4 (by omega), w32_s (show 30 * p + 2 * t < 2147483647 by omega), Int.toNat_natCast, Int.toNat_natCast, z1, show 30 * p + 2 * t + 1 = 30 * p + (2 * t + 1) by omega, z2, w_2 (by omega)]
              clear z1 z2
              refine ⟨by omega, by omega, ?_⟩
              by_cases c1 : 2 ≤ Z (2 * t) ∧ Z (2 * t) ≤ 1000
              · refine ⟨_, ctX11_wi (by decide) c1, ?_⟩
                have e1 : w64 (Z (2 * t) - 1) = Z (2 * t) - 1 := w64_id (by omega) (by omega)
                rw [if_neg (by decide), e1]
                clear e1
                refine ⟨by omega, ?_⟩
                by_cases c2 : 0 ≤ Z (2 * t + 1) ∧ Z (2 * t + 1) ≤ Z (2 * t) - 1
                · refine ⟨_, ctX11_wi (by decide) c2, ?_⟩
                  rw [if_neg (by decide)]
                  refine ih ?_
                  intro u hu
                  by_cases w : u = t
                  · rw [w]; exact ⟨c1, c2⟩
                  · exact h1 u (by omega)
                · refine ⟨_, ctX11_wi_no (by decide) c2, ?_⟩
                  rw [if_pos (by decide)]
                  exact nb (fun z => c2 z.2)
              · refine ⟨_, ctX11_wi_no (by decide) c1, ?_⟩
                rw [if_pos (by decide)]
                exact nb (fun z => c1 z.1)
          exact key 0 (Nat.zero_le _) (fun u hu => absurd hu (Nat.not_lt_zero u))
        have em2 : (m : Int).tmod 2 = ((m % 2 : Nat) : Int) := tmod_nat m 2
        by_cases v : vdA Z m
        · obtain ⟨σ1, c1, c2⟩ := ctX0_seek (d := 9) (n := n) (i := 45 + 2 * p) (m := m) (k := k) (by decide) hW hn14 hQ.1 (by omega) t2 t1 (fun j hj => by rw [show 45 + 2 * p + 1 = 46 + 2 * p by omega]; exact t4 j hj) v
          refine Or.inl ⟨skV (ftB Z m) k (bgL N n 0 1) 0, σ1, ?_, ?_⟩
          · refine (eX10_fitting (d := 9) ?_).mono (by decide)
            intro X Xr Xt hC hr
            refine bX10_fitting_0 hC ?_
            refine Or.inl ⟨_, ctX10_needTray (by decide) hp4 (by rw [t6]; exact s), ?_⟩
            rw [if_neg (by omega), if_neg (by omega)]
            refine ⟨_, htl.1 v, ?_⟩
            rw [if_neg (by decide)]
            exact ⟨_, _, c1, hr⟩
          · intro τ ha
            have hcf := c64 c2
            have hM0 := RowM_c hQ.2.1 hcf ha
            have hM1 : RowM (upS τ 66 5 0) 67 0 N := RowM_ups hM0 (by decide)
            have e77 : τ 77 = σ 77 := by rw [ha 77 (by decide), c2 77 (by decide)]
            have e78 : τ 78 = σ 78 := by rw [ha 78 (by decide), c2 78 (by decide)]
            have e79 : τ 79 = σ 79 := by rw [ha 79 (by decide), c2 79 (by decide)]
            obtain ⟨L, hL⟩ : ∃ L, L = bgL N n 0 1 := ⟨_, rfl⟩
            have hlen : L.length ≤ 330 := by
              rw [hL, bgL_len n (N 1) 0 1 (by omega)]
              exact lb_le ⟨n, by omega⟩ ⟨N 1, by omega⟩
            have hbg := ctX11_bags (x := p) (m := m) (Z := Z) (μ := upS τ 66 5 0) hW hM1 hp4 (by rw [ups_cell (by decide), e78]; exact t3) t1 (hzz τ e79) v n 9 0 1 (k, -1) hn14.2 (by omega) (by decide) (by
              have : 1 * 97 ^ n ≤ 97 ^ 4 := by rw [Nat.one_mul]; exact Nat.pow_le_pow_right (by decide) hn14.2
              exact Nat.le_trans this (by decide))
            rw [← hL] at hbg ⊢
            refine ⟨rbM (upS τ 66 5 0) (rf (ftB Z m) L (k, -1)), ?_, by rw [rbM_66 (by decide) (by decide)]; exact ups_eq, wr_end hI hcf (RowT_fr hQ.1 (fun i hi => c2 _ (by omega))) ha ((th_r (FrR.refl τ)).trans rbM_fr) (RowM_cell hM1 (rbM_cell (by decide))) hW⟩
            refine (eX11_fitting (d := 9) ?_).mono (by decide)
            intro X Xr Xt hC hr
            refine bX11_fitting_0 hC ?_
            refine ⟨_, ctX11_trayFault (by decide) hp4 (by rw [e77]; exact s), ?_⟩
            rw [ups_eq, if_pos (by decide)]
            refine ⟨_, ctX11_wi (by decide) g, ?_⟩
            rw [if_neg (by decide), Int.toNat_natCast, ups_cell (show 78 ≠ 66 by decide), e78, t3, em2, if_neg (by have := v.1; clear em2; omega)]
            refine ⟨by omega, look τ e78 e79 X Xr Xt hC v.1 (fun _ => ?_) (fun q => absurd v q)⟩
            refine bX11_fitting_48 hC ?_
            have e5 : ((upS τ 66 5 0) 66 5) = 0 := ups_eq
            have hev := v.1
            rw [e5, if_pos rfl, Int.toNat_natCast, ups_cell (show 78 ≠ 66 by decide), e78, t3, if_neg (by clear em2; omega), if_neg (by decide)]
            have est : upS (upS (upS τ 66 5 0) 66 24 k) 66 25 (-1) = rbM (upS τ 66 5 0) (k, -1) := ups_sw (by decide)
            rw [est]
            refine ⟨by omega, _, _, hbg, ?_⟩
            have hcl := cF_le (ftB Z m) L
            by_cases q : k = -1
            · rw [if_pos q]
              rw [q, skV_m1, Nat.zero_add] at hr
              rw [q]
              exact hr
            rw [if_neg q]
            rw [rbM_25]
            by_cases q2 : 0 ≤ k
            · obtain ⟨kk, hkk⟩ := z_nat q2
              subst hkk
              rw [skV_n (ftB Z m) (show kk < 2147483648 by have := hk.2; clear em2; omega) L 0 (-1) hlen (Nat.zero_le _), Nat.zero_add, Nat.sub_zero] at hr
              rw [w_p1 (by clear em2; omega)]
              by_cases q3 : kk < cF (ftB Z m) L
              · rw [if_pos q3] at hr
                refine ⟨_, ctX11_wi (by decide) ⟨by omega, by clear em2; omega⟩, ?_⟩
                rw [if_neg (by decide)]
                exact hr
              · rw [if_neg q3] at hr
                refine ⟨_, ctX11_wi_no (by decide) (by clear em2; omega), ?_⟩
                rw [if_pos (by decide)]
                exact hr
            · rw [skV_lo (ftB Z m) (by omega)] at hr
              rw [w_p1 (by clear em2; omega)]
              refine ⟨_, ctX11_wi_no (by decide) (by clear em2; omega), ?_⟩
              rw [if_pos (by decide)]
              exact hr
        · refine Or.inr ⟨2, σ, by decide, ?_, ?_⟩
          · refine (eX10_fitting (d := 9) ?_).mono (by decide)
            intro X Xr Xt hC hr
            refine bX10_fitting_0 hC ?_
            refine Or.inl ⟨_, ctX10_needTray (by decide) hp4 (by rw [t6]; exact s), ?_⟩
            rw [if_neg (by omega), if_neg (by omega)]
            refine ⟨_, htl.2 v, ?_⟩
            rw [if_pos rfl]
            exact hr
          · intro τ ha
            have hM0 := (InvN_ag hQ ha).2.1
            have hM : ∀ v, RowM (upS τ 66 5 v) 67 0 N := fun v => RowM_ups hM0 (by decide)
            refine ⟨0, upS (upS τ 66 5 0) 66 5 3, ?_, ups_eq, Inv_fr hI ((th_fr ha).ups66 (by decide) (by decide) (by decide))⟩
            refine (eX11_fitting (d := 9) ?_).mono (by decide)
            intro X Xr Xt hC hr
            refine bX11_fitting_0 hC ?_
            refine ⟨_, ctX11_trayFault (by decide) hp4 (by rw [ha 77 (by decide)]; exact s), ?_⟩
            rw [ups_eq, if_pos (by decide)]
            refine ⟨_, ctX11_wi (by decide) g, ?_⟩
            rw [if_neg (by decide), Int.toNat_natCast, ups_cell (show 78 ≠ 66 by decide), ha 78 (by decide), t3, em2]
            refine ⟨by omega, ?_⟩
            by_cases q : m % 2 = 1
            · rw [if_pos (by clear em2; omega)]
              exact fx_thr hC (by rw [ups_eq]; decide) hr
            · rw [if_neg (by clear em2; omega)]
              exact look τ (ha 78 (by decide)) (ha 79 (by decide)) X Xr Xt hC (by clear em2; omega) (fun q => absurd q v) (fun _ => hr)
      · refine Or.inr ⟨2, σ, by decide, ?_, ?_⟩
        · refine (eX10_fitting (d := 9) ?_).mono (by decide)
          intro X Xr Xt hC hr
          refine bX10_fitting_0 hC ?_
          refine Or.inl ⟨_, ctX10_needTray (by decide) hp4 (by rw [t6]; exact s), ?_⟩
          by_cases q : y < 1
          · rw [if_pos q]; exact hr
          · rw [if_neg q, if_pos (by omega)]; exact hr
        · intro τ ha
          have hM0 := (InvN_ag hQ ha).2.1
          have hM : ∀ v, RowM (upS τ 66 5 v) 67 0 N := fun v => RowM_ups hM0 (by decide)
          refine ⟨0, upS (upS τ 66 5 0) 66 5 3, ?_, ups_eq, Inv_fr hI ((th_fr ha).ups66 (by decide) (by decide) (by decide))⟩
          refine (eX11_fitting (d := 9) ?_).mono (by decide)
          intro X Xr Xt hC hr
          refine bX11_fitting_0 hC ?_
          refine ⟨_, ctX11_trayFault (by decide) hp4 (by rw [ha 77 (by decide)]; exact s), ?_⟩
          rw [ups_eq, if_pos (by decide)]
          refine ⟨_, ctX11_wi_no (by decide) g, ?_⟩
          rw [if_pos (by decide)]
          exact fx_thr hC (by rw [ups_eq]; decide) hr
  · refine Or.inr ⟨1, σ, by decide, ?_, ?_⟩
    · refine (eX10_fitting (d := 9) ?_).mono (by decide)
      intro X Xr Xt hC hr
      refine bX10_fitting_0 hC ?_
      exact Or.inr ⟨_, ctX10_needTray_1 (by decide) h, hr⟩
    · intro τ ha
      have hM0 := (InvN_ag hQ ha).2.1
      have hM : ∀ v, RowM (upS τ 66 5 v) 67 0 N := fun v => RowM_ups hM0 (by decide)
      refine ⟨0, upS τ 66 5 1, ?_, ups_eq, Inv_fr hI (th_fr ha)⟩
      refine (eX11_fitting (d := 9) ?_).mono (by decide)
      intro X Xr Xt hC hr
      refine bX11_fitting_0 hC ?_
      refine ⟨_, ctX11_trayFault_1 (by decide) h, ?_⟩
      rw [ups_eq, if_neg (by decide)]
      exact fx_thr hC (by rw [ups_eq]; decide) hr

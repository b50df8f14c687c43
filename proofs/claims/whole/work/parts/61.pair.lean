/-! PAIRS: factor -/
theorem lf_self {n k : Nat} (h2 : 2 ≤ n) (hn : n ≤ 1000000000) (hk : n < k * k) (hno : ∀ e, 2 ≤ e → e < k → ¬ e ∣ n) : lf n = n := by
  have hs := lf_spec h2 hn
  have hle := lf_le n hn
  by_cases a : lf n = n
  · exact a
  · exfalso
    obtain ⟨c, hc⟩ := hs.2.1
    have h1 : ¬ lf n < k := fun q => hno _ hs.1 q hs.2.1
    have h3 : ¬ c = 1 := fun e => by rw [e, Nat.mul_one] at hc; omega
    have h4 : ¬ c = 0 := fun e => by rw [e, Nat.mul_zero] at hc; omega
    have h5 : ¬ c < k := fun q => hno c (by omega) q ⟨lf n, by rw [Nat.mul_comm]; exact hc⟩
    have : k * k ≤ lf n * c := Nat.mul_le_mul (by omega) (by omega)
    omega
def fcN (w : Int) : Nat → Nat → Nat → Int
  | 0, _, _ => -1
  | f + 1, r, c => if 1 < r then (if (c : Int) = w then (lf r : Int) else fcN w f (r / lf r) (c + 1)) else if w = -1 then (c : Int) else -1
theorem fcN_s (w : Int) (f r c : Nat) : fcN w (f + 1) r c = if 1 < r then (if (c : Int) = w then (lf r : Int) else fcN w f (r / lf r) (c + 1)) else if w = -1 then (c : Int) else -1 := rfl
theorem jt_factor {ω : Nat → Int} {σ : Sg} (hI : Inv ω σ) (x w : Int) : Jt ω MX10_factor MX11_factor [iV x, iV w] iV cdI σ := by
  by_cases h : 1 ≤ x ∧ x ≤ 1000000000
  · obtain ⟨n, hn⟩ := z_nat (show 0 ≤ x by omega)
    subst hn
    obtain ⟨V, hV⟩ : ∃ V, V = fcN w 31 n 0 := ⟨_, rfl⟩
    refine Or.inl ⟨V, σ, ?_, ?_⟩
    · refine (eX10_factor (d := 4) ?_).mono (by decide)
      intro X Xr Xt hC hr
      refine bX10_factor_0 hC ?_
      refine Or.inl ⟨ctX10_needNumber (by decide) h, ?_⟩
      have hend : ∀ f r c k : Nat, 1 ≤ r → r ≤ 1000000000 → r < 2 ^ f → c + f ≤ 30 → r < k * k → (∀ e, 2 ≤ e → e < k → ¬ e ∣ r) → fcN w (f + 1) r c = V → (if (1 : Int) < (r : Int) then (if (c : Int) = w then (Xr [iV (r : Int)] σ) else (if w = (-1) then (Xr [iV (w32 ((c : Int) + 1))] σ) else (Xr [iV (-1)] σ))) else (if w = (-1) then (Xr [iV (c : Int)] σ) else (Xr [iV (-1)] σ))) := by
        intro f r c k h1 h9 hf hcf hk hno he
        rw [fcN_s w f r c] at he
        by_cases a : 1 < r
        · rw [if_pos a, lf_self (by omega) h9 hk hno, Nat.div_self (by omega)] at he
          rw [if_pos (by omega)]
          by_cases b : (c : Int) = w
          · rw [if_pos b] at he ⊢
            rw [← he] at hr; exact hr
          · rw [if_neg b] at he ⊢
            match f, hf, hcf, he with
            | 0, hf, _, _ => exact absurd hf (by show ¬ r < 1; omega)
            | f + 1, _, hcf, he =>
              rw [fcN_s w f 1 (c + 1), if_neg (by decide)] at he
              by_cases d : w = -1
              · rw [if_pos d] at he ⊢
                rw [← he] at hr
                rw [w32_s (by omega)]; exact hr
              · rw [if_neg d] at he ⊢
                rw [← he] at hr; exact hr
        · rw [if_neg a] at he
          rw [if_neg (by omega)]
          by_cases d : w = -1
          · rw [if_pos d] at he ⊢
            rw [← he] at hr; exact hr
          · rw [if_neg d] at he ⊢
            rw [← he] at hr; exact hr
      have key : ∀ g k : Nat, k + g = 31623 → 2 ≤ k → ∀ f r c : Nat, 1 ≤ r → r ≤ 1000000000 → r < 2 ^ f → c + f ≤ 30 → (∀ e, 2 ≤ e → e < k → ¬ e ∣ r) → fcN w (f + 1) r c = V → X 14 [rV 19 0, iV (n : Int), iV w, iV (r : Int), iV (c : Int), iV (k : Int), uV] [] σ := by
        intro g
        induction g with
        | zero =>
          intro k hk hk2 f r c h1 h9 hf hcf hno he
          have hk : k = 31623 := hk
          have hs := sq_mono (show 31623 ≤ k by omega)
          refine bX10_factor_14 hC ?_
          rw [if_pos (by omega)]
          exact hend f r c k h1 h9 hf hcf (by omega) hno he
        | succ g ih =>
          intro k hk hk2 f r c h1 h9 hf hcf hno he
          refine bX10_factor_14 hC ?_
          rw [if_neg (by omega), w32_sq (by omega)]
          by_cases a : r < k * k
          · rw [if_pos (by omega)]
            exact hend f r c k h1 h9 hf hcf a hno he
          · rw [if_neg (by omega)]
            have inn : ∀ f i r c : Nat, i + f ≤ 30 → 1 ≤ r → r ≤ 1000000000 → r < 2 ^ f → c + f ≤ 30 → (∀ e, 2 ≤ e → e < k → ¬ e ∣ r) → fcN w (f + 1) r c = V → X 34 [rV 19 0, iV (n : Int), iV w, iV (r : Int), iV (c : Int), iV (k : Int), iV (i : Int)] [] σ := by
              intro f
              induction f with
              | zero => intro i r c _ h1 _ hf; exact absurd hf (by show ¬ r < 1; omega)
              | succ f ihf =>
                intro i r c hif h1 h9 hf hcf hno he
                refine bX10_factor_34 hC ?_
                rw [if_pos (by omega)]
                refine ⟨by omega, ?_⟩
                rw [tmod_nat, tdiv_nat]
                by_cases z : r % k = 0
                · rw [if_pos (by rw [z]; rfl)]
                  have hd := Nat.dvd_of_mod_eq_zero z
                  have hkr : k ≤ r := Nat.le_of_dvd (by omega) hd
                  rw [fcN_s w (f + 1) r c, if_pos (show 1 < r by omega), lf_eq (by omega) h9 hk2 hd hno] at he
                  by_cases b : (c : Int) = w
                  · rw [if_pos b] at he ⊢
                    rw [← he] at hr; exact hr
                  · rw [if_neg b] at he ⊢
                    refine ⟨by omega, ?_⟩
                    have d1 := Nat.div_le_self r k
                    have d3 : 1 ≤ r / k := by rw [Nat.le_div_iff_mul_le (by omega)]; omega
                    have d4 : r / k ≤ r / 2 := Nat.div_le_div_left hk2 (by decide)
                    rw [w32_n (show r / k < 2147483648 from Nat.lt_of_le_of_lt d1 (by omega)), w32_s (by omega), w32_s (by omega)]
                    refine ihf (i + 1) (r / k) (c + 1) (by omega) d3 (Nat.le_trans d1 h9) (by rw [Nat.pow_succ] at hf; generalize r / k = zz at d4; omega) (by omega) ?_ he
                    intro e q1 q2 q3
                    exact hno e q1 q2 (Nat.dvd_trans q3 (Nat.div_dvd_of_dvd hd))
                · rw [if_neg (by generalize r % k = zz at z; omega), w32_s (by omega)]
                  refine ih (k + 1) (by omega) (by omega) (f + 1) r c h1 h9 hf hcf ?_ he
                  intro e q1 q2 q3
                  by_cases q4 : e = k
                  · rw [q4] at q3; exact z (Nat.mod_eq_zero_of_dvd q3)
                  · exact hno e q1 (by omega) q3
            exact inn f 0 r c (by omega) h1 h9 hf hcf hno he
      exact key 31621 2 rfl (by omega) 30 n 0 (by omega) (by omega) (by omega) (by omega) (fun e h1 h2 => absurd h2 (by omega)) hV.symm
    · intro τ ha
      refine ⟨upS τ 66 5 0, ?_, ups_eq, Inv_fr hI (th_fr ha)⟩
      refine (eX11_factor (d := 4) ?_).mono (by decide)
      intro X Xr Xt hC hr
      refine bX11_factor_0 hC ?_
      refine ⟨_, ctX11_isCounted (by decide), ?_⟩
      rw [decide_eq_true h, if_neg (by decide)]
      have key : ∀ f r c : Nat, 1 ≤ r → r ≤ 1000000000 → r < 2 ^ f → c + f ≤ 30 → fcN w (f + 1) r c = V → X 23 [rV 20 66, iV (n : Int), iV w, iV (r : Int), iV (c : Int), uV] [] (upS τ 66 5 0) := by
        intro f
        induction f with
        | zero => intro r c h1 _ hf; exact absurd hf (by show ¬ r < 1; omega)
        | succ f ih =>
          intro r c h1 h9 hf hcf he
          refine bX11_factor_23 hC ?_
          rw [fcN_s w (f + 1) r c] at he
          by_cases a : 1 < r
          · rw [if_pos a] at he
            rw [if_pos (by omega)]
            refine ⟨_, ctX11_leastFactor (by decide) h9, ?_⟩
            have hs := lf_spec (show 2 ≤ r by omega) h9
            by_cases b : (c : Int) = w
            · rw [if_pos b] at he ⊢
              rw [← he] at hr; exact hr
            · rw [if_neg b] at he ⊢
              refine ⟨by omega, ?_⟩
              have d1 := Nat.div_le_self r (lf r)
              have hl := lf_le r h9
              have d3 : 1 ≤ r / lf r := by rw [Nat.le_div_iff_mul_le (by omega)]; omega
              have d4 : r / lf r ≤ r / 2 := Nat.div_le_div_left hs.1 (by decide)
              rw [tdiv_nat, w32_n (show r / lf r < 2147483648 from Nat.lt_of_le_of_lt d1 (by omega)), w32_s (by omega)]
              exact ih (r / lf r) (c + 1) d3 (Nat.le_trans d1 h9) (by rw [Nat.pow_succ] at hf; generalize r / lf r = zz at d4; omega) (by omega) he
          · rw [if_neg a] at he
            rw [if_neg (by omega)]
            by_cases d : w = -1
            · rw [if_pos d] at he ⊢
              rw [← he] at hr; exact hr
            · rw [if_neg d] at he ⊢
              rw [← he] at hr; exact hr
      exact key 30 n 0 (by omega) (by omega) (by omega) (by omega) hV.symm
  · refine Or.inr ⟨2, σ, by decide, ?_, ?_⟩
    · refine (eX10_factor (d := 4) ?_).mono (by decide)
      intro X Xr Xt hC hr
      refine bX10_factor_0 hC ?_
      exact Or.inr ⟨_, ctX10_needNumber_no (by decide) h, hr⟩
    · intro τ ha
      refine ⟨0, upS (upS τ 66 5 0) 66 5 1, ?_, ups_eq, Inv_fr hI ((th_fr ha).ups66 (by decide) (by decide) (by decide))⟩
      refine (eX11_factor (d := 4) ?_).mono (by decide)
      intro X Xr Xt hC hr
      refine bX11_factor_0 hC ?_
      refine ⟨_, ctX11_isCounted (by decide), ?_⟩
      rw [decide_eq_false h, if_pos (by decide)]
      exact ⟨_, _, ctX11_fails (by decide), hr⟩

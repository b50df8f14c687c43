/-! PAIRS: smooth -/
theorem smallP_iff (x : Int) : smallP x = true ↔ (2 ≤ x ∧ x ≤ 97) ∧ isPr x.toNat = true := by
  by_cases h : 2 ≤ x ∧ x ≤ 97
  · obtain ⟨n, hn⟩ := z_nat (show 0 ≤ x by omega)
    subst hn
    have := smallP_nat ⟨n, by omega⟩
    have : smallP (n : Int) = isPr n := this
    rw [this, Int.toNat_natCast]
    exact ⟨fun a => ⟨h, a⟩, fun a => a.2⟩
  · rw [smallP_big h]
    exact ⟨fun a => Bool.noConfusion a, fun a => absurd a.1 h⟩
theorem ctX10_needSmallPrime {d : Nat} {x : Int} (hd : 2 ≤ d) {σ : Sg} (h : smallP x = true) : Ct d MX10_needSmallPrime [rV 19 0, iV x] σ (.inl []) σ := by
  refine (eX10_needSmallPrime (d := 1) ?_).mono hd
  intro X Xr Xt hC hr
  refine bX10_needSmallPrime_0 hC ?_
  refine ⟨_, ctX3_isSmallPrime (by decide), ?_⟩
  rw [h, if_neg (by decide)]
  exact hr
theorem ctX10_needSmallPrime_no {d : Nat} {x : Int} (hd : 2 ≤ d) {σ : Sg} (h : smallP x = false) : Ct d MX10_needSmallPrime [rV 19 0, iV x] σ (.inr 2) σ := by
  refine (eX10_needSmallPrime (d := 1) ?_).mono hd
  intro X Xr Xt hC hr
  refine bX10_needSmallPrime_0 hC ?_
  refine ⟨_, ctX3_isSmallPrime (by decide), ?_⟩
  rw [h, if_pos (by decide)]
  exact hr
def smN (p n : Nat) : Nat := sumN (fun j => if stC (j + 1) (cntP p) = 1 then 1 else 0) n
theorem smN_le (p n : Nat) : smN p n ≤ n * 1 := sumN_bound (fun i hi => by split <;> omega)
theorem smN_s (p n : Nat) : smN p (n + 1) = smN p n + (if stC (n + 1) (cntP p) = 1 then 1 else 0) := rfl
theorem jt_smooth {ω : Nat → Int} {σ : Sg} (hI : Inv ω σ) (x q : Int) : Jt ω MX10_smooth MX11_smooth [iV x, iV q] iV cdI σ := by
  by_cases h : 1 ≤ x ∧ x ≤ 5000
  · obtain ⟨n, hn⟩ := z_nat (show 0 ≤ x by omega)
    subst hn
    cases hs : smallP q with
    | true =>
      have hq := (smallP_iff q).mp hs
      obtain ⟨p, hp⟩ := z_nat (show 0 ≤ q by omega)
      subst hp
      have hpp : isPr p = true := hq.2
      refine Or.inl ⟨(smN p n : Int), σ, ?_, ?_⟩
      · refine (eX10_smooth (d := 4) ?_).mono (by decide)
        intro X Xr Xt hC hr
        refine bX10_smooth_0 hC ?_
        refine Or.inl ⟨ctX10_needSmallNumber (by decide) h, Or.inl ⟨ctX10_needSmallPrime (by decide) hs, ?_⟩⟩
        have key : ∀ j, j ≤ n → ∀ z : Int, z = ((j + 1 : Nat) : Int) → X 15 [rV 19 0, iV (n : Int), iV (p : Int), iV (smN p j : Int), iV z] [] σ := by
          refine loop_up (P := fun j => ∀ z : Int, z = ((j + 1 : Nat) : Int) → X 15 [rV 19 0, iV (n : Int), iV (p : Int), iV (smN p j : Int), iV z] [] σ) ?_ ?_
          · intro z hz
            refine bX10_smooth_15 hC ?_
            rw [if_pos (by omega)]
            exact hr
          · intro j hj ih z hz
            refine bX10_smooth_15 hC ?_
            have hb := smN_le p j
            rw [if_neg (by omega), hz]
            refine ⟨_, ctX3_isSmooth (by decide) (by omega) (by omega) (by omega), ?_⟩
            have u := smN_s p j
            by_cases e : stC (j + 1) (cntP p) = 1
            · rw [decide_eq_true e, if_neg (by decide), w32_s (by omega)]
              rw [if_pos e] at u
              rw [u] at ih
              exact ih _ (by unfold w32; omega)
            · rw [decide_eq_false e, if_pos (by decide)]
              rw [if_neg e, Nat.add_zero] at u
              rw [u] at ih
              exact ih _ (by unfold w32; omega)
        exact key 0 (Nat.zero_le _) 1 rfl
      · intro τ ha
        refine ⟨upS τ 66 5 0, ?_, ups_eq, Inv_fr hI (th_fr ha)⟩
        refine (eX11_smooth (d := 4) ?_).mono (by decide)
        intro X Xr Xt hC hr
        refine bX11_smooth_0 hC ?_
        refine ⟨_, ctX11_within (by decide), ?_⟩
        rw [decide_eq_true h, if_neg (by decide)]
        refine ⟨_, ctX11_within (by decide), ?_⟩
        rw [decide_eq_true hq.1, if_neg (by decide)]
        refine ⟨_, ctX11_isPrime (by decide) (by omega), ?_⟩
        rw [hpp, if_neg (by decide), ups_eq, if_neg (by decide)]
        have key : ∀ j, j ≤ n → ∀ z : Int, z = ((j + 1 : Nat) : Int) → X 56 [rV 20 66, iV (n : Int), iV (p : Int), iV (smN p j : Int), iV z, uV, uV] [] (upS τ 66 5 0) := by
          refine loop_up (P := fun j => ∀ z : Int, z = ((j + 1 : Nat) : Int) → X 56 [rV 20 66, iV (n : Int), iV (p : Int), iV (smN p j : Int), iV z, uV, uV] [] (upS τ 66 5 0)) ?_ ?_
          · intro z hz
            refine bX11_smooth_56 hC ?_
            rw [if_pos (by omega)]
            exact hr
          · intro j hj ih z hz
            refine bX11_smooth_56 hC ?_
            have hb := smN_le p j
            have u := smN_s p j
            rw [if_neg (by omega), hz]
            have e2 := stM_stC (n := j + 1) (by omega) (by omega) (p - 1) (by omega)
            rw [show p - 1 + 1 = p by omega] at e2
            have key2 : ∀ m, m ≤ p - 1 → ∀ t : Nat, t = stM (j + 1) m → ∀ y : Int, y = ((m + 2 : Nat) : Int) → X 69 [rV 20 66, iV (n : Int), iV (p : Int), iV (smN p j : Int), iV ((j + 1 : Nat) : Int), iV (t : Int), iV y] [] (upS τ 66 5 0) := by
              refine loop_up (P := fun m => ∀ t : Nat, t = stM (j + 1) m → ∀ y : Int, y = ((m + 2 : Nat) : Int) → X 69 [rV 20 66, iV (n : Int), iV (p : Int), iV (smN p j : Int), iV ((j + 1 : Nat) : Int), iV (t : Int), iV y] [] (upS τ 66 5 0)) ?_ ?_
              · intro t ht y hy
                refine bX11_smooth_69 hC ?_
                rw [if_pos (by omega)]
                rw [e2] at ht
                by_cases e : stC (j + 1) (cntP p) = 1
                · rw [if_pos (by omega), w32_s (by omega), w32_s (by omega)]
                  rw [if_pos e] at u
                  rw [u] at ih
                  exact ih _ rfl
                · rw [if_neg (by omega), w32_s (by omega)]
                  rw [if_neg e, Nat.add_zero] at u
                  rw [u] at ih
                  rw [Int.add_zero, w32_n (by omega)]
                  exact ih _ rfl
              · intro m hm ih2 t ht y hy
                refine bX11_smooth_69 hC ?_
                rw [if_neg (by omega), hy]
                have tl : t ≤ j + 1 := by rw [ht]; exact stM_le _ _
                have tp : 0 < t := by rw [ht]; exact stM_pos (by omega) _
                have key3 : ∀ f t : Nat, 0 < t → t < 2 ^ f → t ≤ 5000 → strp (m + 2) f t = stM (j + 1) (m + 1) → X 75 [rV 20 66, iV (n : Int), iV (p : Int), iV (smN p j : Int), iV ((j + 1 : Nat) : Int), iV (t : Int), iV ((m + 2 : Nat) : Int)] [] (upS τ 66 5 0) := by
                  intro f
                  induction f with
                  | zero => intro t h0 h1; exact absurd h1 (by show ¬ t < 1; omega)
                  | succ f ihf =>
                    intro t h0 h1 h5 he
                    refine bX11_smooth_75 hC ?_
                    refine ⟨by omega, ?_⟩
                    rw [tmod_nat, tdiv_nat]
                    by_cases a : t % (m + 2) = 0
                    · rw [strp_s a] at he
                      rw [if_pos (by rw [a]; rfl)]
                      refine ⟨by omega, ?_⟩
                      have d1 := Nat.div_le_self t (m + 2)
                      have d2 := Nat.div_add_mod t (m + 2)
                      rw [a, Nat.add_zero] at d2
                      have d3 : 0 < t / (m + 2) := by
                        cases hz : t / (m + 2) with
                        | zero => rw [hz, Nat.mul_zero] at d2; omega
                        | succ z => exact Nat.succ_pos z
                      have d4 : t / (m + 2) ≤ t / 2 := Nat.div_le_div_left (by omega) (by decide)
                      rw [w32_n (show t / (m + 2) < 2147483648 from Nat.lt_of_le_of_lt d1 (by omega))]
                      exact ihf _ d3 (by rw [Nat.pow_succ] at h1; generalize t / (m + 2) = zz at d4; omega) (Nat.le_trans d1 h5) he
                    · rw [strp_n a] at he
                      rw [if_neg (by generalize t % (m + 2) = zz at a; omega)]
                      exact ih2 t he _ (by unfold w32; omega)
                exact key3 32 t tp (by omega) (by omega) (by rw [ht]; rfl)
            exact key2 0 (Nat.zero_le _) _ rfl 2 rfl
        exact key 0 (Nat.zero_le _) 1 rfl
    | false =>
      refine Or.inr ⟨2, σ, by decide, ?_, ?_⟩
      · refine (eX10_smooth (d := 4) ?_).mono (by decide)
        intro X Xr Xt hC hr
        refine bX10_smooth_0 hC ?_
        exact Or.inl ⟨ctX10_needSmallNumber (by decide) h, Or.inr ⟨_, ctX10_needSmallPrime_no (by decide) hs, hr⟩⟩
      · intro τ ha
        refine ⟨0, upS τ 66 5 1, ?_, ups_eq, Inv_fr hI (th_fr ha)⟩
        refine (eX11_smooth (d := 4) ?_).mono (by decide)
        intro X Xr Xt hC hr
        refine bX11_smooth_0 hC ?_
        refine ⟨_, ctX11_within (by decide), ?_⟩
        rw [decide_eq_true h, if_neg (by decide)]
        refine ⟨_, ctX11_within (by decide), ?_⟩
        by_cases b : 2 ≤ q ∧ q ≤ 97
        · rw [decide_eq_true b, if_neg (by decide)]
          obtain ⟨p, hp⟩ := z_nat (show 0 ≤ q by omega)
          subst hp
          have e : isPr p = false := by
            have := smallP_nat ⟨p, by omega⟩
            have : smallP (p : Int) = isPr p := this
            rw [← this, hs]
          refine ⟨_, ctX11_isPrime (by decide) (by omega), ?_⟩
          rw [e, if_pos (by decide), ups_eq, if_pos (by decide)]
          exact hr
        · rw [decide_eq_false b, if_pos (by decide), ups_eq, if_pos (by decide)]
          exact hr
  · refine Or.inr ⟨2, σ, by decide, ?_, ?_⟩
    · refine (eX10_smooth (d := 4) ?_).mono (by decide)
      intro X Xr Xt hC hr
      refine bX10_smooth_0 hC ?_
      exact Or.inr ⟨_, ctX10_needSmallNumber_no (by decide) h, hr⟩
    · intro τ ha
      refine ⟨0, upS τ 66 5 1, ?_, ups_eq, Inv_fr hI (th_fr ha)⟩
      refine (eX11_smooth (d := 4) ?_).mono (by decide)
      intro X Xr Xt hC hr
      refine bX11_smooth_0 hC ?_
      refine ⟨_, ctX11_within (by decide), ?_⟩
      rw [decide_eq_false h, if_pos (by decide), ups_eq, if_pos (by decide)]
      exact hr

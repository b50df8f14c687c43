/-! PAIRS: trial, primesTo, witness -/
theorem ctX10_needNumber {d : Nat} {x b : Int} (hd : 1 ≤ d) {σ : Sg} (h : b ≤ x ∧ x ≤ 1000000000) : Ct d MX10_needNumber [rV 19 0, iV x, iV b] σ (.inl []) σ := by
  refine (eX10_needNumber (d := 0) ?_).mono hd
  intro X Xr Xt hC hr
  refine bX10_needNumber_0 hC ?_
  rw [if_neg (by omega), if_neg (by omega)]
  exact hr
theorem ctX10_needNumber_no {d : Nat} {x b : Int} (hd : 1 ≤ d) {σ : Sg} (h : ¬ (b ≤ x ∧ x ≤ 1000000000)) : Ct d MX10_needNumber [rV 19 0, iV x, iV b] σ (.inr 2) σ := by
  refine (eX10_needNumber (d := 0) ?_).mono hd
  intro X Xr Xt hC hr
  refine bX10_needNumber_0 hC ?_
  by_cases h0 : x < b
  · rw [if_pos h0]; exact hr
  · rw [if_neg h0, if_pos (by omega)]; exact hr
theorem ctX10_needSmallNumber {d : Nat} {x : Int} (hd : 1 ≤ d) {σ : Sg} (h : 1 ≤ x ∧ x ≤ 5000) : Ct d MX10_needSmallNumber [rV 19 0, iV x] σ (.inl []) σ := by
  refine (eX10_needSmallNumber (d := 0) ?_).mono hd
  intro X Xr Xt hC hr
  refine bX10_needSmallNumber_0 hC ?_
  rw [if_neg (by omega), if_neg (by omega)]
  exact hr
theorem ctX10_needSmallNumber_no {d : Nat} {x : Int} (hd : 1 ≤ d) {σ : Sg} (h : ¬ (1 ≤ x ∧ x ≤ 5000)) : Ct d MX10_needSmallNumber [rV 19 0, iV x] σ (.inr 2) σ := by
  refine (eX10_needSmallNumber (d := 0) ?_).mono hd
  intro X Xr Xt hC hr
  refine bX10_needSmallNumber_0 hC ?_
  by_cases h0 : x < 1
  · rw [if_pos h0]; exact hr
  · rw [if_neg h0, if_pos (by omega)]; exact hr
theorem ctX11_isCounted {d : Nat} {x : Int} (hd : 2 ≤ d) {σ : Sg} : Ct d MX11_isCounted [iV x] σ (.inl [iV (b01 (decide (1 ≤ x ∧ x ≤ 1000000000)))]) σ := by
  refine (eX11_isCounted (d := 1) ?_).mono hd
  intro X Xr Xt hC hr
  refine bX11_isCounted_0 hC ?_
  refine ⟨_, ctX11_within (by decide), ?_, hr⟩
  cases decide (1 ≤ x ∧ x ≤ 1000000000)
  · exact Or.inl rfl
  · exact Or.inr rfl
theorem lf_le (n : Nat) (h : n ≤ 1000000000) : lf n ≤ n := by
  have : ∀ f k, lfGo n f k ≤ n := by
    intro f
    induction f with
    | zero => intro k; exact Nat.le_refl n
    | succ f ih =>
      intro k
      unfold lfGo
      by_cases a : n < k * k
      · rw [if_pos a]; exact Nat.le_refl n
      · rw [if_neg a]
        by_cases b : n % k = 0
        · rw [if_pos b]
          by_cases c : k = 0
          · omega
          · have := Nat.le_mul_of_pos_left k (show 0 < k by omega)
            omega
        · rw [if_neg b]; exact ih (k + 1)
  exact this _ _
def trN (n : Nat) (w : Int) : Int := if w = 0 then (lf n : Int) else w32 ((lf n : Int) - 1)
theorem jt_trial {ω : Nat → Int} {σ : Sg} (hI : Inv ω σ) (x w : Int) : Jt ω MX10_trial MX11_trial [iV x, iV w] iV cdI σ := by
  by_cases h : 1 ≤ x ∧ x ≤ 1000000000
  · by_cases g : 0 ≤ w ∧ w ≤ 1
    · obtain ⟨n, hn⟩ := z_nat (show 0 ≤ x by omega)
      subst hn
      refine Or.inl ⟨trN n w, σ, ?_, ?_⟩
      · refine (eX10_trial (d := 4) ?_).mono (by decide)
        intro X Xr Xt hC hr
        refine bX10_trial_0 hC ?_
        refine Or.inl ⟨ctX10_needNumber (by decide) h, Or.inl ⟨ctX10_needWhat (by decide) g, _, ctX3_leastFactor (by decide) (by omega), ?_⟩⟩
        unfold trN at hr
        by_cases w0 : w = 0
        · rw [if_pos w0] at hr ⊢; exact hr
        · rw [if_neg w0] at hr ⊢; exact hr
      · intro τ ha
        refine ⟨upS τ 66 5 0, ?_, ups_eq, Inv_fr hI (th_fr ha)⟩
        refine (eX11_trial (d := 4) ?_).mono (by decide)
        intro X Xr Xt hC hr
        refine bX11_trial_0 hC ?_
        refine ⟨_, ctX11_isCounted (by decide), ?_⟩
        rw [decide_eq_true h, if_neg (by decide)]
        refine ⟨_, ctX11_within (by decide), ?_⟩
        rw [decide_eq_true g, if_neg (by decide), ups_eq, if_neg (by decide)]
        unfold trN at hr
        by_cases w0 : w = 0
        · rw [if_pos w0] at hr ⊢; exact ⟨_, ctX11_leastFactor (by decide) (by omega), hr⟩
        · rw [if_neg w0] at hr ⊢; exact ⟨_, ctX11_leastFactor (by decide) (by omega), hr⟩
    · refine Or.inr ⟨2, σ, by decide, ?_, ?_⟩
      · refine (eX10_trial (d := 4) ?_).mono (by decide)
        intro X Xr Xt hC hr
        refine bX10_trial_0 hC ?_
        exact Or.inl ⟨ctX10_needNumber (by decide) h, Or.inr ⟨_, ctX10_needWhat_no (by decide) g, hr⟩⟩
      · intro τ ha
        refine ⟨0, upS τ 66 5 1, ?_, ups_eq, Inv_fr hI (th_fr ha)⟩
        refine (eX11_trial (d := 4) ?_).mono (by decide)
        intro X Xr Xt hC hr
        refine bX11_trial_0 hC ?_
        refine ⟨_, ctX11_isCounted (by decide), ?_⟩
        rw [decide_eq_true h, if_neg (by decide)]
        refine ⟨_, ctX11_within (by decide), ?_⟩
        rw [decide_eq_false g, if_pos (by decide), ups_eq, if_pos (by decide)]
        exact hr
  · refine Or.inr ⟨2, σ, by decide, ?_, ?_⟩
    · refine (eX10_trial (d := 4) ?_).mono (by decide)
      intro X Xr Xt hC hr
      refine bX10_trial_0 hC ?_
      exact Or.inr ⟨_, ctX10_needNumber_no (by decide) h, hr⟩
    · intro τ ha
      refine ⟨0, upS τ 66 5 1, ?_, ups_eq, Inv_fr hI (th_fr ha)⟩
      refine (eX11_trial (d := 4) ?_).mono (by decide)
      intro X Xr Xt hC hr
      refine bX11_trial_0 hC ?_
      refine ⟨_, ctX11_isCounted (by decide), ?_⟩
      rw [decide_eq_false h, if_pos (by decide), ups_eq, if_pos (by decide)]
      exact hr
def ptN (m : Nat) : Nat := sumN (fun j => if isPr (j + 2) = true then 1 else 0) m
theorem ptN_le (m : Nat) : ptN m ≤ m * 1 := sumN_bound (fun i hi => by split <;> omega)
theorem isPr_iff {k : Nat} (h : 1 < k) : isPr k = true ↔ lf k = k := by
  unfold isPr
  rw [decide_eq_true h, Bool.true_and]
  exact decide_eq_true_iff
theorem jt_primesTo {ω : Nat → Int} {σ : Sg} (hI : Inv ω σ) (x : Int) : Jt ω MX10_primesTo MX11_primesTo [iV x] iV cdI σ := by
  by_cases h : 1 ≤ x ∧ x ≤ 5000
  · obtain ⟨n, hn⟩ := z_nat (show 0 ≤ x by omega)
    subst hn
    refine Or.inl ⟨(ptN (n - 1) : Int), σ, ?_, ?_⟩
    · refine (eX10_primesTo (d := 4) ?_).mono (by decide)
      intro X Xr Xt hC hr
      refine bX10_primesTo_0 hC ?_
      refine Or.inl ⟨ctX10_needSmallNumber (by decide) h, ?_⟩
      have key : ∀ j, j ≤ n - 1 → ∀ y z : Int, y = (ptN j : Int) → z = ((j + 2 : Nat) : Int) → X 9 [rV 19 0, iV (n : Int), iV y, iV z] [] σ := by
        refine loop_up (P := fun j => ∀ y z : Int, y = (ptN j : Int) → z = ((j + 2 : Nat) : Int) → X 9 [rV 19 0, iV (n : Int), iV y, iV z] [] σ) ?_ ?_
        · intro y z hy hz
          refine bX10_primesTo_9 hC ?_
          rw [if_pos (by omega), hy]
          exact hr
        · intro j hj ih y z hy hz
          refine bX10_primesTo_9 hC ?_
          have hb := ptN_le j
          have u : ptN (j + 1) = ptN j + (if isPr (j + 2) = true then 1 else 0) := rfl
          rw [if_neg (by omega), hz]
          refine ⟨_, ctX3_leastFactor (by decide) (by omega), ?_⟩
          by_cases q : lf (j + 2) = j + 2
          · rw [if_pos (by omega)]
            rw [if_pos ((isPr_iff (by omega)).mpr q)] at u
            exact ih _ _ (by rw [u, hy]; unfold w32; omega) (by unfold w32; omega)
          · rw [if_neg (by omega)]
            rw [if_neg (fun e => q ((isPr_iff (by omega)).mp e))] at u
            exact ih _ _ (by rw [u, hy]; omega) (by unfold w32; omega)
      exact key 0 (Nat.zero_le _) 0 2 rfl rfl
    · intro τ ha
      refine ⟨upS τ 66 5 0, ?_, ups_eq, Inv_fr hI (th_fr ha)⟩
      refine (eX11_primesTo (d := 4) ?_).mono (by decide)
      intro X Xr Xt hC hr
      refine bX11_primesTo_0 hC ?_
      refine ⟨_, ctX11_within (by decide), ?_⟩
      rw [decide_eq_true h, if_neg (by decide)]
      have key : ∀ j, j ≤ n - 1 → ∀ y z : Int, y = (ptN j : Int) → z = ((j + 2 : Nat) : Int) → X 27 [rV 20 66, iV (n : Int), iV y, iV z] [] (upS τ 66 5 0) := by
        refine loop_up (P := fun j => ∀ y z : Int, y = (ptN j : Int) → z = ((j + 2 : Nat) : Int) → X 27 [rV 20 66, iV (n : Int), iV y, iV z] [] (upS τ 66 5 0)) ?_ ?_
        · intro y z hy hz
          refine bX11_primesTo_27 hC ?_
          rw [if_pos (by omega), hy]
          exact hr
        · intro j hj ih y z hy hz
          refine bX11_primesTo_27 hC ?_
          have hb := ptN_le j
          have u : ptN (j + 1) = ptN j + (if isPr (j + 2) = true then 1 else 0) := rfl
          rw [if_neg (by omega), hz]
          refine ⟨_, ctX11_isPrime (by decide) (by omega), ?_⟩
          cases q : isPr (j + 2) with
          | true =>
            rw [if_neg (by decide)]
            rw [q, if_pos rfl] at u
            exact ih _ _ (by rw [u, hy]; unfold w32; omega) (by unfold w32; omega)
          | false =>
            rw [if_pos (by decide)]
            rw [q, if_neg (by decide)] at u
            exact ih _ _ (by rw [u, hy]; unfold w32; omega) (by unfold w32; omega)
      exact key 0 (Nat.zero_le _) 0 2 rfl rfl
  · refine Or.inr ⟨2, σ, by decide, ?_, ?_⟩
    · refine (eX10_primesTo (d := 4) ?_).mono (by decide)
      intro X Xr Xt hC hr
      refine bX10_primesTo_0 hC ?_
      exact Or.inr ⟨_, ctX10_needSmallNumber_no (by decide) h, hr⟩
    · intro τ ha
      refine ⟨0, upS (upS τ 66 5 0) 66 5 1, ?_, ups_eq, Inv_fr hI ((th_fr ha).ups66 (by decide) (by decide) (by decide))⟩
      refine (eX11_primesTo (d := 4) ?_).mono (by decide)
      intro X Xr Xt hC hr
      refine bX11_primesTo_0 hC ?_
      refine ⟨_, ctX11_within (by decide), ?_⟩
      rw [decide_eq_false h, if_pos (by decide)]
      exact ⟨_, _, ctX11_fails (by decide), hr⟩

/-! PAIRS: count -/
theorem sumN_5 (f : Nat → Nat) : ∀ p, sumN f (5 * p) = sumN (fun p => sumN (fun q => f (5 * p + q)) 5) p := by
  intro p
  induction p with
  | zero => rfl
  | succ p ih =>
    rw [sumN_s, ← ih]
    have e : sumN f (5 * p + 5) = sumN f (5 * p) + f (5 * p) + f (5 * p + 1) + f (5 * p + 2) + f (5 * p + 3) + f (5 * p + 4) := rfl
    have e2 : sumN (fun q => f (5 * p + q)) 5 = 0 + f (5 * p + 0) + f (5 * p + 1) + f (5 * p + 2) + f (5 * p + 3) + f (5 * p + 4) := rfl
    have z : f (5 * p + 0) = f (5 * p) := rfl
    have z2 : sumN f (5 * (p + 1)) = sumN f (5 * p + 5) := rfl
    rw [z2]
    omega
def abN (N : Tn) (k : Nat) : Nat := sumN (fun i => if 1 < N (156 + i) then 1 else 0) k
theorem abN_le (N : Tn) (k : Nat) : abN N k ≤ k * 1 := sumN_bound (fun i hi => by split <;> omega)
def aqN (N : Tn) (p q : Nat) : Nat := sumN (fun q => if 1 < oN N p q then 1 else 0) q
def apN (N : Tn) (p : Nat) : Nat := sumN (fun p => aqN N p (N 2)) p
theorem aqN_le (N : Tn) (p q : Nat) : aqN N p q ≤ q * 1 := sumN_bound (fun i hi => by split <;> omega)
theorem apN_le {N : Tn} (h : N 2 ≤ 5) (p : Nat) : apN N p ≤ p * 5 := sumN_bound (fun i hi => by have := aqN_le N i (N 2); omega)
theorem apN_25 {N : Tn} (hW : WFN N) : apN N (N 2) = abN N 25 := by
  have h5 := hW.1.2.1
  have ho := hW.2.2.2.2.2.2.2.2.1
  unfold abN
  rw [show 25 = 5 * 5 from rfl, sumN_5]
  have e : ∀ p, p < 5 → sumN (fun q => if 1 < N (156 + (5 * p + q)) then 1 else 0) 5 = aqN N p (N 2) := by
    intro p hp
    have : ∀ q, N (156 + (5 * p + q)) = oN N p q := fun q => by rw [← Nat.add_assoc]; rfl
    have e3 : sumN (fun q => if 1 < N (156 + (5 * p + q)) then 1 else 0) 5 = sumN (fun q => if 1 < oN N p q then 1 else 0) 5 := sumN_congr (fun q hq => by show (if 1 < N (156 + (5 * p + q)) then 1 else 0) = _; rw [this q])
    rw [e3]
    refine sumN_zero h5 ?_
    intro q h1 h2
    have := (ho p q hp h2).2.2 (Or.inr (Or.inr h1))
    rw [if_neg (by omega)]
  rw [sumN_congr (g := fun p => aqN N p (N 2)) (fun p hp => e p hp)]
  refine (sumN_zero h5 ?_).symm
  intro p h1 h2
  have : aqN N p (N 2) ≤ N 2 * 0 := sumN_bound (fun q hq => by
    have := (ho p q h2 (by omega)).2.2 (Or.inr (Or.inl h1))
    rw [if_neg (by omega)]
    exact Nat.le_refl 0)
  show aqN N p (N 2) = 0
  omega
theorem ctX1_aboveOne {d : Nat} {N : Tn} (hd : 1 ≤ d) {σ : Sg} (hR : RowT σ 7 N) : Ct d MX1_aboveOne [rV 11 8] σ (.inl [iV (abN N 25 : Int)]) σ := by
  refine (eX1_aboveOne (d := 0) ?_).mono hd
  intro X Xr Xt hC hr
  refine bX1_aboveOne_0 hC ?_
  have key : ∀ k, k ≤ 25 → X 4 [rV 11 8, iV (abN N k : Int), iV (k : Int)] [] σ := by
    refine loop_up (P := fun k => X 4 [rV 11 8, iV (abN N k : Int), iV (k : Int)] [] σ) ?_ ?_
    · refine bX1_aboveOne_4 hC ?_
      rw [if_neg (by decide)]
      exact hr
    · intro k hk ih
      refine bX1_aboveOne_4 hC ?_
      have hb := abN_le N k
      have u : abN N (k + 1) = abN N k + (if 1 < N (156 + k) then 1 else 0) := rfl
      rw [if_pos (by omega)]
      refine ⟨by omega, ?_⟩
      rw [Int.toNat_natCast, show σ (8 + 1) k = (N (156 + k) : Int) from hR.2.1 k (by omega)]
      by_cases e : 1 < N (156 + k)
      · rw [if_pos (by omega), w32_s (by omega), w32_s (by omega)]
        rw [if_pos e] at u
        rw [u] at ih
        exact ih
      · rw [if_neg (by omega), w32_s (by omega)]
        rw [if_neg e, Nat.add_zero] at u
        rw [u] at ih
        exact ih
  exact key 0 (by omega)
def coN (N : Tn) (n : Int) (w : Int) : Int := if w = 0 then (N 0 : Int) else if w = 1 then (N 1 : Int) else if w = 2 then (N 2 : Int) else if w = 3 then (N 3 : Int) else if w = 4 then (pN N : Int) else if w = 5 then (tN N : Int) else if w = 6 then (abN N 25 : Int) else if w = 7 then n else -1
theorem jn_count {ω : Nat → Int} {σ : Sg} (hI : Inv ω σ) (w : Int) : Jn ω MX10_count MX11_count [iV w] iV σ := by
  obtain ⟨N, hQ⟩ := hI.1
  obtain ⟨n, _, hn1, hn2, _⟩ := hI.2.2.1
  have hW := hQ.2.2
  have h8 := hW.1.1
  have h5 := hW.1.2.1
  have hf : Fr σ (upS σ 66 5 0) := (Fr.refl σ).ups66 (by decide) (by decide) (by decide)
  have hM : RowM (upS σ 66 5 0) 67 0 N := RowM_ups hQ.2.1 (by decide)
  refine ⟨coN N n w, σ, ?_, upS σ 66 5 0, ?_, Inv_fr hI hf⟩
  · refine (eX10_count (d := 5) ?_).mono (by decide)
    intro X Xr Xt hC hr
    refine bX10_count_0 hC ?_
    unfold coN at hr
    rw [hQ.1.1 0 (by omega), hQ.1.1 1 (by omega), hQ.1.1 2 (by omega), hQ.1.1 3 (by omega), hn1]
    by_cases a : w = 0
    · rw [if_pos a] at hr ⊢; exact hr
    rw [if_neg a] at hr ⊢
    by_cases a : w = 1
    · rw [if_pos a] at hr ⊢; exact hr
    rw [if_neg a] at hr ⊢
    by_cases a : w = 2
    · rw [if_pos a] at hr ⊢; exact hr
    rw [if_neg a] at hr ⊢
    by_cases a : w = 3
    · rw [if_pos a] at hr ⊢; exact hr
    rw [if_neg a] at hr ⊢
    by_cases a : w = 4
    · rw [if_pos a] at hr ⊢; exact ⟨_, ctX8_manyInPurses (by decide) hW hQ.1, hr⟩
    rw [if_neg a] at hr ⊢
    by_cases a : w = 5
    · rw [if_pos a] at hr ⊢; exact ⟨_, ctX8_manyInTreasury (by decide) hW hQ.1, hr⟩
    rw [if_neg a] at hr ⊢
    by_cases a : w = 6
    · rw [if_pos a] at hr ⊢; exact ⟨_, ctX1_aboveOne (by decide) hQ.1, hr⟩
    rw [if_neg a] at hr ⊢
    by_cases a : w = 7
    · rw [if_pos a] at hr ⊢; exact hr
    rw [if_neg a] at hr ⊢
    exact hr
  · refine (eX11_count (d := 5) ?_).mono (by decide)
    intro X Xr Xt hC hr
    refine bX11_count_0 hC ?_
    have k1 : ∀ k, k ≤ N 2 → X 15 [rV 20 66, iV w, iV (sumN (mN N) k : Int), iV 0, iV 0, iV (k : Int), uV] [] (upS σ 66 5 0) := by
      refine loop_up (P := fun k => X 15 [rV 20 66, iV w, iV (sumN (mN N) k : Int), iV 0, iV 0, iV (k : Int), uV] [] (upS σ 66 5 0)) ?_ ?_
      · refine bX11_count_15 hC ?_
        refine ⟨_, ctX11_people (by decide) hM, ?_⟩
        rw [if_neg (by omega)]
        have k2 : ∀ k, k ≤ N 1 → X 42 [rV 20 66, iV w, iV (pN N : Int), iV (sumN (fun c => N (148 + c)) k : Int), iV 0, iV (k : Int), uV] [] (upS σ 66 5 0) := by
          refine loop_up (P := fun k => X 42 [rV 20 66, iV w, iV (pN N : Int), iV (sumN (fun c => N (148 + c)) k : Int), iV 0, iV (k : Int), uV] [] (upS σ 66 5 0)) ?_ ?_
          · refine bX11_count_42 hC ?_
            refine ⟨_, ctX11_coins (by decide) hM, ?_⟩
            rw [if_neg (by omega)]
            have k3 : ∀ p, p ≤ N 2 → ∀ y : Nat, y = apN N p → X 74 [rV 20 66, iV w, iV (pN N : Int), iV (tN N : Int), iV (y : Int), iV (p : Int), uV] [] (upS σ 66 5 0) := by
              refine loop_up (P := fun p => ∀ y : Nat, y = apN N p → X 74 [rV 20 66, iV w, iV (pN N : Int), iV (tN N : Int), iV (y : Int), iV (p : Int), uV] [] (upS σ 66 5 0)) ?_ ?_
              · intro y hy
                refine bX11_count_74 hC ?_
                refine ⟨_, ctX11_people (by decide) hM, ?_⟩
                rw [if_neg (by omega)]
                rw [apN_25 hW] at hy
                unfold coN at hr
                rw [rwm0 hM (by omega), rwm0 hM (by omega), hf.2.1, hn2, hy]
                by_cases a : w = 0
                · rw [if_pos a] at hr ⊢; exact hr
                rw [if_neg a] at hr ⊢
                by_cases a : w = 1
                · rw [if_pos a] at hr ⊢; exact ⟨_, ctX11_coins (by decide) hM, hr⟩
                rw [if_neg a] at hr ⊢
                by_cases a : w = 2
                · rw [if_pos a] at hr ⊢; exact ⟨_, ctX11_people (by decide) hM, hr⟩
                rw [if_neg a] at hr ⊢
                by_cases a : w = 3
                · rw [if_pos a] at hr ⊢; exact hr
                rw [if_neg a] at hr ⊢
                by_cases a : w = 4
                · rw [if_pos a] at hr ⊢; exact hr
                rw [if_neg a] at hr ⊢
                by_cases a : w = 5
                · rw [if_pos a] at hr ⊢; exact hr
                rw [if_neg a] at hr ⊢
                by_cases a : w = 6
                · rw [if_pos a] at hr ⊢; exact hr
                rw [if_neg a] at hr ⊢
                by_cases a : w = 7
                · rw [if_pos a] at hr ⊢; exact hr
                rw [if_neg a] at hr ⊢
                exact hr
              · intro p hp ih y hy
                refine bX11_count_74 hC ?_
                refine ⟨_, ctX11_people (by decide) hM, ?_⟩
                rw [if_pos (by omega)]
                have hap := apN_le h5 p
                have k4 : ∀ q, q ≤ N 2 → ∀ y : Nat, y = apN N p + aqN N p q → X 86 [rV 20 66, iV w, iV (pN N : Int), iV (tN N : Int), iV (y : Int), iV (p : Int), iV (q : Int)] [] (upS σ 66 5 0) := by
                  refine loop_up (P := fun q => ∀ y : Nat, y = apN N p + aqN N p q → X 86 [rV 20 66, iV w, iV (pN N : Int), iV (tN N : Int), iV (y : Int), iV (p : Int), iV (q : Int)] [] (upS σ 66 5 0)) ?_ ?_
                  · intro y hy
                    refine bX11_count_86 hC ?_
                    refine ⟨_, ctX11_people (by decide) hM, ?_⟩
                    rw [if_neg (by omega), w32_s (by omega)]
                    exact ih _ hy
                  · intro q hq ihq y hy
                    refine bX11_count_86 hC ?_
                    refine ⟨_, ctX11_people (by decide) hM, ?_⟩
                    rw [if_pos (by omega)]
                    refine ⟨_, ctX11_debt (by decide) (by omega) (by omega) hM, ?_⟩
                    have hb := aqN_le N p q
                    have u : aqN N p (q + 1) = aqN N p q + (if 1 < oN N p q then 1 else 0) := rfl
                    by_cases e : 1 < oN N p q
                    · rw [if_pos (by omega), w32_s (by omega), w32_s (by omega)]
                      rw [if_pos e] at u
                      exact ihq _ (by rw [u, hy, Nat.add_assoc])
                    · rw [if_neg (by omega), Int.add_zero, w32_n (by omega), w32_s (by omega)]
                      rw [if_neg e] at u
                      exact ihq _ (by rw [hy]; omega)
                exact k4 0 (Nat.zero_le _) y hy
            exact k3 0 (Nat.zero_le _) 0 rfl
          · intro k hk ih
            refine bX11_count_42 hC ?_
            refine ⟨_, ctX11_coins (by decide) hM, ?_⟩
            rw [if_pos (by omega)]
            have hb : sumN (fun c => N (148 + c)) (k + 1) ≤ (k + 1) * 999 := sumN_bound (fun i hi => (hW.2.2.2.2.2.2.2.1 i (by omega)).1)
            rw [sumN_s] at hb
            rw [show w32 (148 + (k : Int)) = ((148 + k : Nat) : Int) by unfold w32; omega]
            refine ⟨by omega, ?_⟩
            rw [Int.toNat_natCast, rwm0 hM (by omega), w32_s (by omega), ← Int.natCast_add, w32_n (by omega)]
            exact ih
        exact k2 0 (Nat.zero_le _)
      · intro k hk ih
        refine bX11_count_15 hC ?_
        refine ⟨_, ctX11_people (by decide) hM, ?_⟩
        rw [if_pos (by omega)]
        refine ⟨_, ctX11_size (by decide) (by omega) hW hM, ?_⟩
        have := mN_le hW (show k < 5 by omega)
        have := pN_le hW
        have : sumN (mN N) k ≤ pN N := sumN_mono (by omega)
        rw [w32_s (by omega), ← Int.natCast_add, w32_n (by omega)]
        exact ih
    exact k1 0 (Nat.zero_le _)

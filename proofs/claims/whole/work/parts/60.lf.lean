/-! THE LEAST FACTOR is one -/
theorem lfGo_spec {n : Nat} (h2 : 2 ≤ n) (hn : n ≤ 1000000000) : ∀ f k, k + f = 31623 → 2 ≤ k → (∀ e, 2 ≤ e → e < k → ¬ e ∣ n) → 2 ≤ lfGo n f k ∧ lfGo n f k ∣ n ∧ ∀ e, 2 ≤ e → e < lfGo n f k → ¬ e ∣ n := by
  have big : ∀ k, n < k * k → (∀ e, 2 ≤ e → e < k → ¬ e ∣ n) → ∀ e, 2 ≤ e → e < n → ¬ e ∣ n := by
    intro k hk hno e he hen hd
    obtain ⟨c, hc⟩ := hd
    by_cases a : e < k
    · exact hno e he a ⟨c, hc⟩
    · by_cases b : c < k
      · by_cases c2 : 2 ≤ c
        · exact hno c c2 b ⟨e, by rw [hc, Nat.mul_comm]⟩
        · by_cases c1 : c = 1
          · rw [c1, Nat.mul_one] at hc; omega
          · have : c = 0 := by omega
            rw [this, Nat.mul_zero] at hc
            omega
      · have : k * k ≤ e * c := Nat.mul_le_mul (by omega) (by omega)
        omega
  intro f
  induction f with
  | zero =>
    intro k hk hk2 hno
    have hk : k = 31623 := hk
    have hs := sq_mono (show 31623 ≤ k by omega)
    exact ⟨h2, Nat.dvd_refl n, big k (by omega) hno⟩
  | succ f ih =>
    intro k hk hk2 hno
    unfold lfGo
    by_cases a : n < k * k
    · rw [if_pos a]
      exact ⟨h2, Nat.dvd_refl n, big k a hno⟩
    · rw [if_neg a]
      by_cases b : n % k = 0
      · rw [if_pos b]
        exact ⟨hk2, Nat.dvd_of_mod_eq_zero b, hno⟩
      · rw [if_neg b]
        refine ih (k + 1) (by omega) (by omega) ?_
        intro e he hek hd
        by_cases c : e = k
        · rw [c] at hd
          exact b (Nat.mod_eq_zero_of_dvd hd)
        · exact hno e he (by omega) hd
theorem lf_spec {n : Nat} (h2 : 2 ≤ n) (hn : n ≤ 1000000000) : 2 ≤ lf n ∧ lf n ∣ n ∧ ∀ e, 2 ≤ e → e < lf n → ¬ e ∣ n := lfGo_spec h2 hn 31621 2 rfl (Nat.le_refl 2) (fun e h1 h3 => absurd h3 (by omega))
theorem lf_eq {n k : Nat} (h2 : 2 ≤ n) (hn : n ≤ 1000000000) (hk : 2 ≤ k) (hd : k ∣ n) (hno : ∀ e, 2 ≤ e → e < k → ¬ e ∣ n) : lf n = k := by
  have := lf_spec h2 hn
  by_cases a : lf n < k
  · exact absurd this.2.1 (hno _ this.1 a)
  · by_cases b : k < lf n
    · exact absurd hd (this.2.2 k hk b)
    · omega

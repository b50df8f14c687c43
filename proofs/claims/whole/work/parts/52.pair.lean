/-! PAIRS: purse, change -/
def gxN (N : Tn) (p k : Nat) : Int := if grN N p k = -1 then 1 else (N (4 + (grN N p k).toNat) : Int)
def lxN (N : Tn) (p k : Nat) : Int := if leN N p k = -1 then 1 else (N (4 + (leN N p k).toNat) : Int)
theorem gxN_s {N : Tn} (hW : WFN N) {p k : Nat} (hk : k < N 1) : gxN N p (k + 1) = if hN N p k = 0 then gxN N p k else max (gxN N p k) (N (4 + k) : Int) := by
  have hq := hW.2.1 k hk
  have hrg := grN_rng N p k
  unfold gxN
  rw [grN_s]
  by_cases h : hN N p k = 0
  · rw [if_neg (show ¬ 0 < hN N p k by omega), if_pos h]
  · rw [if_pos (show 0 < hN N p k by omega), if_neg h]
    by_cases a : grN N p k = -1
    · rw [if_pos a, if_neg (by omega), if_pos a, Int.toNat_natCast]
      omega
    · rw [if_neg a, if_neg a]
      by_cases b : N (4 + (grN N p k).toNat) < N (4 + k)
      · rw [if_pos b, if_neg (by omega), Int.toNat_natCast]
        omega
      · rw [if_neg b, if_neg a]
        omega
theorem lxN_1 {N : Tn} (hW : WFN N) {p k : Nat} (hk : k ≤ N 1) : lxN N p k = 1 ↔ leN N p k = -1 := by
  have hrg := leN_rng N p k
  unfold lxN
  by_cases a : leN N p k = -1
  · rw [if_pos a]; exact ⟨fun _ => a, fun _ => rfl⟩
  · rw [if_neg a]
    have := (hW.2.1 (leN N p k).toNat (by omega)).2.1
    exact ⟨fun h => absurd h (by omega), fun h => absurd h a⟩
theorem lxN_s {N : Tn} (hW : WFN N) {p k : Nat} (hk : k < N 1) : lxN N p (k + 1) = if hN N p k = 0 then lxN N p k else if lxN N p k = 1 then (N (4 + k) : Int) else min (lxN N p k) (N (4 + k) : Int) := by
  have hq := hW.2.1 k hk
  have hrg := leN_rng N p k
  have h1 := lxN_1 hW (p := p) (show k ≤ N 1 by omega)
  by_cases h : hN N p k = 0
  · rw [if_pos h]
    unfold lxN
    rw [leN_s, if_neg (show ¬ 0 < hN N p k by omega)]
  · rw [if_neg h]
    by_cases a : leN N p k = -1
    · rw [if_pos (h1.mpr a)]
      unfold lxN
      rw [leN_s, if_pos (show 0 < hN N p k by omega), if_pos a, if_neg (by omega), Int.toNat_natCast]
    · rw [if_neg (fun q => a (h1.mp q))]
      unfold lxN
      rw [leN_s, if_pos (show 0 < hN N p k by omega), if_neg a, if_neg a]
      by_cases b : N (4 + k) < N (4 + (leN N p k).toNat)
      · rw [if_pos b, if_neg (by omega), Int.toNat_natCast]
        omega
      · rw [if_neg b, if_neg a]
        omega
def purN (N : Tn) (p : Nat) (w : Int) : Int := if w = 0 then (mN N p : Int) else if w = 1 then (unN N p (N 1) : Int) else if w = 2 then gxN N p (N 1) else lxN N p (N 1)
theorem ctX8_pr_gr {d p t : Nat} {N : Tn} (hd : 1 ≤ d) (hW : WFN N) {σ : Sg} (hR : RowT σ t N) : Ct d MX8_primeOf [rV 17 t, iV (grN N p (N 1))] σ (.inl [iV (gxN N p (N 1))]) σ := by
  have hrg := grN_rng N p (N 1)
  unfold gxN
  by_cases a : grN N p (N 1) = -1
  · rw [if_pos a, a]; exact ctX8_primeOf_no hd
  · rw [if_neg a]; exact ctX8_primeOf_z hd hW (by omega) (by omega) hR
theorem ctX8_pr_le {d p t : Nat} {N : Tn} (hd : 1 ≤ d) (hW : WFN N) {σ : Sg} (hR : RowT σ t N) : Ct d MX8_primeOf [rV 17 t, iV (leN N p (N 1))] σ (.inl [iV (lxN N p (N 1))]) σ := by
  have hrg := leN_rng N p (N 1)
  unfold lxN
  by_cases a : leN N p (N 1) = -1
  · rw [if_pos a, a]; exact ctX8_primeOf_no hd
  · rw [if_neg a]; exact ctX8_primeOf_z hd hW (by omega) (by omega) hR
theorem jt_purse {ω : Nat → Int} {σ : Sg} (hI : Inv ω σ) (x w : Int) : Jt ω MX10_purse MX11_purse [iV x, iV w] iV cdNI σ := by
  obtain ⟨N, hQ⟩ := hI.1
  have hW := hQ.2.2
  have h5 := hW.1.2.1
  have h8 := hW.1.1
  by_cases h : 0 ≤ x ∧ x < N 2
  · by_cases g : 0 ≤ w ∧ w ≤ 3
    · obtain ⟨p, hp⟩ := z_nat h.1
      subst hp
      have hp5 : p < 5 := by omega
      refine Or.inl ⟨purN N p w, σ, ?_, ?_⟩
      · refine (eX10_purse (d := 4) ?_).mono (by decide)
        intro X Xr Xt hC hr
        refine bX10_purse_0 hC ?_
        refine Or.inl ⟨ctX10_needPerson (by decide) hQ.1 h, Or.inl ⟨ctX10_needWhat (by decide) g, ?_⟩⟩
        unfold purN at hr
        by_cases w0 : w = 0
        · rw [if_pos w0] at hr ⊢
          exact ⟨_, ctX8_many (by decide) hW hp5 hQ.1, hr⟩
        rw [if_neg w0] at hr ⊢
        by_cases w1 : w = 1
        · rw [if_pos w1] at hr ⊢
          exact ⟨_, ctX8_unlike (by decide) hW hp5 hQ.1, hr⟩
        rw [if_neg w1] at hr ⊢
        by_cases w2 : w = 2
        · rw [if_pos w2] at hr ⊢
          exact ⟨_, ctX8_greatestCoin (by decide) hW hp5 hQ.1, _, ctX8_pr_gr (by decide) hW hQ.1, hr⟩
        rw [if_neg w2] at hr ⊢
        exact ⟨_, ctX8_leastCoin (by decide) hW hp5 hQ.1, _, ctX8_pr_le (by decide) hW hQ.1, hr⟩
      · intro τ ha
        have hM0 := (InvN_ag hQ ha).2.1
        have hM : RowM (upS τ 66 5 0) 67 0 N := RowM_ups hM0 (by decide)
        refine ⟨upS τ 66 5 0, ?_, ups_eq, Inv_fr hI (th_fr ha)⟩
        refine (eX11_purse (d := 4) ?_).mono (by decide)
        intro X Xr Xt hC hr
        refine bX11_purse_0 hC ?_
        refine ⟨_, ctX11_isPerson (by decide) h5 hM0, ?_⟩
        rw [decide_eq_true h, if_neg (by decide)]
        refine ⟨_, ctX11_within (by decide), ?_⟩
        rw [decide_eq_true g, if_neg (by decide), ups_eq, if_neg (by decide)]
        have key : ∀ k, k ≤ N 1 → ∀ a b, a = gxN N p k → b = lxN N p k → X 54 [rV 20 66, iV (p : Int), iV w, iV (unN N p k : Int), iV a, iV b, iV (k : Int)] [] (upS τ 66 5 0) := by
          refine loop_up (P := fun k => ∀ a b, a = gxN N p k → b = lxN N p k → X 54 [rV 20 66, iV (p : Int), iV w, iV (unN N p k : Int), iV a, iV b, iV (k : Int)] [] (upS τ 66 5 0)) ?_ ?_
          · intro a b hga hlb
            refine bX11_purse_54 hC ?_
            refine ⟨_, ctX11_coins (by decide) hM, ?_⟩
            rw [if_neg (by omega)]
            unfold purN at hr
            by_cases w0 : w = 0
            · rw [if_pos w0] at hr ⊢
              exact ⟨_, ctX11_size (by decide) hp5 hW hM, hr⟩
            rw [if_neg w0] at hr ⊢
            by_cases w1 : w = 1
            · rw [if_pos w1] at hr ⊢
              exact hr
            rw [if_neg w1] at hr ⊢
            by_cases w2 : w = 2
            · rw [if_pos w2] at hr ⊢
              rw [hga]
              exact hr
            rw [if_neg w2] at hr ⊢
            rw [hlb]
            exact hr
          · intro k hk ih a b hga hlb
            refine bX11_purse_54 hC ?_
            refine ⟨_, ctX11_coins (by decide) hM, ?_⟩
            rw [if_pos (by omega)]
            refine ⟨_, ctX11_of (by decide) hp5 (by omega) hM, ?_⟩
            have g1 := gxN_s hW (p := p) hk
            have l1 := lxN_s hW (p := p) hk
            have u1 : unN N p (k + 1) = unN N p k + (if 0 < hN N p k then 1 else 0) := rfl
            have ub : unN N p k ≤ k * 1 := sumN_bound (fun i hi => by split <;> omega)
            rw [w32_s (by omega)]
            by_cases z : hN N p k = 0
            · rw [if_pos (by omega)]
              rw [if_pos z] at g1 l1
              rw [if_neg (by omega)] at u1
              rw [u1, Nat.add_zero] at ih
              exact ih a b (by rw [hga, g1]) (by rw [hlb, l1])
            · rw [if_neg (by omega)]
              rw [if_neg z] at g1 l1
              rw [if_pos (by omega)] at u1
              rw [u1] at ih
              refine ⟨_, ctX11_prime (by decide) (by omega) hM, ?_⟩
              rw [w32_s (by omega)]
              by_cases o : b = 1
              · rw [if_pos o]
                rw [← hlb, if_pos o] at l1
                exact ⟨_, ctX11_prime (by decide) (by omega) hM, ih _ _ (by rw [hga, g1]) (by rw [l1])⟩
              · rw [if_neg o]
                rw [← hlb, if_neg o] at l1
                exact ⟨_, ctX11_prime (by decide) (by omega) hM, ih _ _ (by rw [hga, g1]) (by rw [l1])⟩
        exact key 0 (Nat.zero_le _) 1 1 rfl rfl
    · refine Or.inr ⟨2, σ, by decide, ?_, ?_⟩
      · refine (eX10_purse (d := 4) ?_).mono (by decide)
        intro X Xr Xt hC hr
        refine bX10_purse_0 hC ?_
        exact Or.inl ⟨ctX10_needPerson (by decide) hQ.1 h, Or.inr ⟨_, ctX10_needWhat_no (by decide) g, hr⟩⟩
      · intro τ ha
        have hM0 := (InvN_ag hQ ha).2.1
        refine ⟨0, upS τ 66 5 2, ?_, ups_eq, Inv_fr hI (th_fr ha)⟩
        refine (eX11_purse (d := 4) ?_).mono (by decide)
        intro X Xr Xt hC hr
        refine bX11_purse_0 hC ?_
        refine ⟨_, ctX11_isPerson (by decide) h5 hM0, ?_⟩
        rw [decide_eq_true h, if_neg (by decide)]
        refine ⟨_, ctX11_within (by decide), ?_⟩
        rw [decide_eq_false g, if_pos (by decide), ups_eq, if_pos (by decide)]
        exact hr
  · refine Or.inr ⟨1, σ, by decide, ?_, ?_⟩
    · refine (eX10_purse (d := 4) ?_).mono (by decide)
      intro X Xr Xt hC hr
      refine bX10_purse_0 hC ?_
      exact Or.inr ⟨_, ctX10_needPerson_no (by decide) hQ.1 h, hr⟩
    · intro τ ha
      have hM0 := (InvN_ag hQ ha).2.1
      refine ⟨0, upS τ 66 5 1, ?_, ups_eq, Inv_fr hI (th_fr ha)⟩
      refine (eX11_purse (d := 4) ?_).mono (by decide)
      intro X Xr Xt hC hr
      refine bX11_purse_0 hC ?_
      refine ⟨_, ctX11_isPerson (by decide) h5 hM0, ?_⟩
      rw [decide_eq_false h, if_pos (by decide), ups_eq, if_pos (by decide)]
      exact hr

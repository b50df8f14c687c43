/-! HELPERS of the pairs; order, least, common, stolen, gainer -/
theorem ctX11_isP {d : Nat} {x : Int} (hd : 2 ≤ d) {N : Tn} (h2 : N 2 ≤ 5) {σ : Sg} (hM : RowM σ 67 0 N) (h : 0 ≤ x ∧ x < N 2) : Ct d MX11_isPerson [rV 20 66, lV x] σ (.inl [iV 1]) σ := by
  have := ctX11_isPerson (x := x) hd h2 hM
  rw [decide_eq_true h] at this
  exact this
theorem ctX11_isP_no {d : Nat} {x : Int} (hd : 2 ≤ d) {N : Tn} (h2 : N 2 ≤ 5) {σ : Sg} (hM : RowM σ 67 0 N) (h : ¬ (0 ≤ x ∧ x < N 2)) : Ct d MX11_isPerson [rV 20 66, lV x] σ (.inl [iV 0]) σ := by
  have := ctX11_isPerson (x := x) hd h2 hM
  rw [decide_eq_false h] at this
  exact this
theorem ctX11_wi {d : Nat} (hd : 1 ≤ d) {x a b : Int} {σ : Sg} (h : a ≤ x ∧ x ≤ b) : Ct d MX11_within [lV x, lV a, lV b] σ (.inl [iV 1]) σ := by
  have := ctX11_within (x := x) (a := a) (b := b) (σ := σ) hd
  rw [decide_eq_true h] at this
  exact this
theorem ctX11_wi_no {d : Nat} (hd : 1 ≤ d) {x a b : Int} {σ : Sg} (h : ¬ (a ≤ x ∧ x ≤ b)) : Ct d MX11_within [lV x, lV a, lV b] σ (.inl [iV 0]) σ := by
  have := ctX11_within (x := x) (a := a) (b := b) (σ := σ) hd
  rw [decide_eq_false h] at this
  exact this
theorem ctX10_needTwo {d : Nat} {x y : Int} {N : Tn} (hd : 2 ≤ d) {σ : Sg} (hR : RowT σ 7 N) (h : 0 ≤ x ∧ x < N 2) (g : 0 ≤ y ∧ y < N 2) (hne : ¬ x = y) : Ct d MX10_needTwo [rV 19 0, iV x, iV y] σ (.inl []) σ := by
  refine (eX10_needTwo (d := 1) ?_).mono hd
  intro X Xr Xt hC hr
  refine bX10_needTwo_0 hC ?_
  refine Or.inl ⟨ctX10_needPerson (by decide) hR h, Or.inl ⟨ctX10_needPerson (by decide) hR g, ?_⟩⟩
  rw [if_neg hne]
  exact hr
theorem ctX10_needTwo_1 {d : Nat} {x y : Int} {N : Tn} (hd : 2 ≤ d) {σ : Sg} (hR : RowT σ 7 N) (h : ¬ ((0 ≤ x ∧ x < N 2) ∧ (0 ≤ y ∧ y < N 2))) : Ct d MX10_needTwo [rV 19 0, iV x, iV y] σ (.inr 1) σ := by
  refine (eX10_needTwo (d := 1) ?_).mono hd
  intro X Xr Xt hC hr
  refine bX10_needTwo_0 hC ?_
  by_cases a : 0 ≤ x ∧ x < N 2
  · exact Or.inl ⟨ctX10_needPerson (by decide) hR a, Or.inr ⟨_, ctX10_needPerson_no (by decide) hR (fun g => h ⟨a, g⟩), hr⟩⟩
  · exact Or.inr ⟨_, ctX10_needPerson_no (by decide) hR a, hr⟩
theorem ctX10_needTwo_2 {d : Nat} {x y : Int} {N : Tn} (hd : 2 ≤ d) {σ : Sg} (hR : RowT σ 7 N) (h : 0 ≤ x ∧ x < N 2) (g : 0 ≤ y ∧ y < N 2) (e : x = y) : Ct d MX10_needTwo [rV 19 0, iV x, iV y] σ (.inr 2) σ := by
  refine (eX10_needTwo (d := 1) ?_).mono hd
  intro X Xr Xt hC hr
  refine bX10_needTwo_0 hC ?_
  refine Or.inl ⟨ctX10_needPerson (by decide) hR h, Or.inl ⟨ctX10_needPerson (by decide) hR g, ?_⟩⟩
  rw [if_pos e]
  exact hr
def lsN (N : Tn) (p q : Nat) (k : Nat) : Nat := sumN (fun c => max (hN N p c) (hN N q c)) k
theorem max_nat (a b : Nat) : max (a : Int) (b : Int) = ((max a b : Nat) : Int) := by omega
theorem min_nat (a b : Nat) : min (a : Int) (b : Int) = ((min a b : Nat) : Int) := by omega
theorem jt_least {ω : Nat → Int} {σ : Sg} (hI : Inv ω σ) (x y : Int) : Jt ω MX10_least MX11_least [iV x, iV y] iV cdN σ := by
  obtain ⟨N, hQ⟩ := hI.1
  have hW := hQ.2.2
  have h5 := hW.1.2.1
  have h8 := hW.1.1
  by_cases h : 0 ≤ x ∧ x < N 2
  · by_cases g : 0 ≤ y ∧ y < N 2
    · obtain ⟨p, hp⟩ := z_nat h.1
      subst hp
      obtain ⟨q, hq⟩ := z_nat g.1
      subst hq
      have hp5 : p < 5 := by omega
      have hq5 : q < 5 := by omega
      have hb : ∀ k, k ≤ 8 → lsN N p q k ≤ k * 9 := fun k hk => sumN_bound (fun i hi => by have := hN_le hW hp5 (show i < 8 by omega); have := hN_le hW hq5 (show i < 8 by omega); omega)
      refine Or.inl ⟨(lsN N p q (N 1) : Int), σ, ?_, ?_⟩
      · refine (eX10_least (d := 2) ?_).mono (by decide)
        intro X Xr Xt hC hr
        refine bX10_least_0 hC ?_
        refine Or.inl ⟨ctX10_needPerson (by decide) hQ.1 h, Or.inl ⟨ctX10_needPerson (by decide) hQ.1 g, ?_⟩⟩
        have key : ∀ k, k ≤ N 1 → ∀ s : Nat, s = lsN N p q k → X 15 [rV 19 0, iV (p : Int), iV (q : Int), iV (s : Int), iV (k : Int)] [] σ := by
          refine loop_up (P := fun k => ∀ s : Nat, s = lsN N p q k → X 15 [rV 19 0, iV (p : Int), iV (q : Int), iV (s : Int), iV (k : Int)] [] σ) ?_ ?_
          · intro s hs
            refine bX10_least_15 hC ?_
            rw [hQ.1.1 1 (by omega), if_neg (by omega), hs]
            exact hr
          · intro k hk ih s hs
            refine bX10_least_15 hC ?_
            rw [hQ.1.1 1 (by omega), if_pos (by omega)]
            refine ⟨_, ctX8_held (by decide) hp5 (by omega) hQ.1, _, ctX8_held (by decide) hq5 (by omega) hQ.1, ?_⟩
            have hb1 := hb (k + 1) (by omega)
            have e : lsN N p q (k + 1) = lsN N p q k + max (hN N p k) (hN N q k) := rfl
            rw [max_nat, w32_s (by omega), ← Int.natCast_add, w32_n (by omega)]
            exact ih _ (by omega)
        exact key 0 (Nat.zero_le _) 0 rfl
      · intro τ ha
        have hM0 := (InvN_ag hQ ha).2.1
        have hM : ∀ v, RowM (upS τ 66 5 v) 67 0 N := fun v => RowM_ups hM0 (by decide)
        refine ⟨upS τ 66 5 0, ?_, ups_eq, Inv_fr hI (th_fr ha)⟩
        refine (eX11_least (d := 2) ?_).mono (by decide)
        intro X Xr Xt hC hr
        refine bX11_least_0 hC ?_
        refine ⟨_, ctX11_isP (by decide) h5 (hM 0) h, ?_⟩
        rw [if_neg (by decide)]
        refine ⟨_, ctX11_isP (by decide) h5 (hM 0) g, ?_⟩
        rw [if_neg (by decide)]
        have key : ∀ k, k ≤ N 1 → ∀ s : Nat, s = lsN N p q k → X 34 [rV 20 66, iV (p : Int), iV (q : Int), iV (s : Int), iV (k : Int)] [] (upS τ 66 5 0) := by
          refine loop_up (P := fun k => ∀ s : Nat, s = lsN N p q k → X 34 [rV 20 66, iV (p : Int), iV (q : Int), iV (s : Int), iV (k : Int)] [] (upS τ 66 5 0)) ?_ ?_
          · intro s hs
            refine bX11_least_34 hC ?_
            refine ⟨_, ctX11_coins (by decide) (hM 0), ?_⟩
            rw [if_neg (by omega), hs]
            exact hr
          · intro k hk ih s hs
            refine bX11_least_34 hC ?_
            refine ⟨_, ctX11_coins (by decide) (hM 0), ?_⟩
            rw [if_pos (by omega)]
            refine ⟨_, ctX11_of (by decide) hp5 (by omega) (hM 0), _, ctX11_of (by decide) hq5 (by omega) (hM 0), ?_⟩
            have hb1 := hb (k + 1) (by omega)
            have e : lsN N p q (k + 1) = lsN N p q k + max (hN N p k) (hN N q k) := rfl
            rw [max_nat, w32_s (by omega), ← Int.natCast_add, w32_n (by omega)]
            exact ih _ (by omega)
        exact key 0 (Nat.zero_le _) 0 rfl
    · refine Or.inr ⟨1, σ, by decide, ?_, ?_⟩
      · refine (eX10_least (d := 2) ?_).mono (by decide)
        intro X Xr Xt hC hr
        refine bX10_least_0 hC ?_
        exact Or.inl ⟨ctX10_needPerson (by decide) hQ.1 h, Or.inr ⟨_, ctX10_needPerson_no (by decide) hQ.1 g, hr⟩⟩
      · intro τ ha
        have hM0 := (InvN_ag hQ ha).2.1
        have hM : ∀ v, RowM (upS τ 66 5 v) 67 0 N := fun v => RowM_ups hM0 (by decide)
        refine ⟨0, upS (upS τ 66 5 0) 66 5 1, ?_, ups_eq, Inv_fr hI ((th_fr ha).ups66 (by decide) (by decide) (by decide))⟩
        refine (eX11_least (d := 2) ?_).mono (by decide)
        intro X Xr Xt hC hr
        refine bX11_least_0 hC ?_
        refine ⟨_, ctX11_isP (by decide) h5 (hM 0) h, ?_⟩
        rw [if_neg (by decide)]
        refine ⟨_, ctX11_isP_no (by decide) h5 (hM 0) g, ?_⟩
        rw [if_pos (by decide)]
        exact ⟨_, _, ctX11_fails (by decide), hr⟩
  · refine Or.inr ⟨1, σ, by decide, ?_, ?_⟩
    · refine (eX10_least (d := 2) ?_).mono (by decide)
      intro X Xr Xt hC hr
      refine bX10_least_0 hC ?_
      exact Or.inr ⟨_, ctX10_needPerson_no (by decide) hQ.1 h, hr⟩
    · intro τ ha
      have hM0 := (InvN_ag hQ ha).2.1
      have hM : ∀ v, RowM (upS τ 66 5 v) 67 0 N := fun v => RowM_ups hM0 (by decide)
      refine ⟨0, upS (upS τ 66 5 0) 66 5 1, ?_, ups_eq, Inv_fr hI ((th_fr ha).ups66 (by decide) (by decide) (by decide))⟩
      refine (eX11_least (d := 2) ?_).mono (by decide)
      intro X Xr Xt hC hr
      refine bX11_least_0 hC ?_
      refine ⟨_, ctX11_isP_no (by decide) h5 (hM 0) h, ?_⟩
      rw [if_pos (by decide)]
      exact ⟨_, _, ctX11_fails (by decide), hr⟩
/-! unlike primes -/
theorem isPr_cop : ∀ a b : Fin 98, isPr a.val = true → isPr b.val = true → a.val ≠ b.val → Nat.gcd a.val b.val = 1 := by decide +kernel
theorem cop_N {N : Tn} (hW : WFN N) {c e : Nat} (hc : c < N 1) (he : e < N 1) (hne : c ≠ e) : Nat.Coprime (N (4 + c)) (N (4 + e)) := by
  have h1 := hW.2.1 c hc
  have h2 := hW.2.1 e he
  exact isPr_cop ⟨N (4 + c), by omega⟩ ⟨N (4 + e), by omega⟩ h1.1 h2.1 (fun q => hne (hW.2.2.1 c e hc he q))
theorem cop_prod {N : Tn} (hW : WFN N) (f : Nat → Nat) {c : Nat} (hc : c < N 1) : ∀ k, k ≤ c → Nat.Coprime (prodN (fun i => N (4 + i) ^ f i) k) (N (4 + c)) := by
  intro k
  induction k with
  | zero => intro _; exact Nat.coprime_one_left _
  | succ k ih =>
    intro hk
    rw [prodN_s]
    exact Nat.Coprime.mul_left (ih (by omega)) (Nat.Coprime.pow_left _ (cop_N hW (by omega) hc (by omega)))
theorem gcd_pow {A B x e f : Nat} (hA : Nat.Coprime A x) (hB : Nat.Coprime B x) : Nat.gcd (A * x ^ e) (B * x ^ f) = Nat.gcd A B * x ^ (min e f) := by
  by_cases h : e ≤ f
  · have e1 : x ^ f = x ^ (f - e) * x ^ e := by rw [← Nat.pow_add, Nat.sub_add_cancel h]
    rw [e1, ← Nat.mul_assoc, Nat.gcd_mul_right, show min e f = e by omega]
    rw [Nat.Coprime.gcd_mul_right_cancel_right B (Nat.Coprime.pow_left _ (Nat.Coprime.symm hA))]
  · have e1 : x ^ e = x ^ (e - f) * x ^ f := by rw [← Nat.pow_add, Nat.sub_add_cancel (by omega)]
    rw [e1, ← Nat.mul_assoc, Nat.gcd_mul_right, show min e f = f by omega]
    rw [Nat.Coprime.gcd_mul_right_cancel A (Nat.Coprime.pow_left _ (Nat.Coprime.symm hB))]
theorem gcd_prod {N : Tn} (hW : WFN N) (f g : Nat → Nat) : ∀ k, k ≤ N 1 → Nat.gcd (prodN (fun i => N (4 + i) ^ f i) k) (prodN (fun i => N (4 + i) ^ g i) k) = prodN (fun i => N (4 + i) ^ (min (f i) (g i))) k := by
  intro k
  induction k with
  | zero => intro _; exact Nat.gcd_self 1
  | succ k ih =>
    intro hk
    rw [prodN_s, prodN_s, prodN_s, ← ih (by omega)]
    exact gcd_pow (cop_prod hW f hk k (Nat.le_refl k)) (cop_prod hW g hk k (Nat.le_refl k))
def cmN (N : Tn) (p q k : Nat) : Nat := prodN (fun c => N (4 + c) ^ (min (hN N p c) (hN N q c))) k
theorem cmN_s (N : Tn) (p q k : Nat) : cmN N p q (k + 1) = cmN N p q k * N (4 + k) ^ (min (hN N p k) (hN N q k)) := rfl
theorem jt_common {ω : Nat → Int} {σ : Sg} (hI : Inv ω σ) (x y : Int) : Jt ω MX10_common MX11_common [iV x, iV y] lV cdN σ := by
  obtain ⟨N, hQ⟩ := hI.1
  have hW := hQ.2.2
  have h5 := hW.1.2.1
  have h8 := hW.1.1
  by_cases h : 0 ≤ x ∧ x < N 2
  · by_cases g : 0 ≤ y ∧ y < N 2
    · obtain ⟨p, hp⟩ := z_nat h.1
      subst hp
      obtain ⟨q, hq⟩ := z_nat g.1
      subst hq
      have hp5 : p < 5 := by omega
      have hq5 : q < 5 := by omega
      have hg : Nat.gcd (wN N p) (wN N q) = cmN N p q (N 1) := gcd_prod hW (hN N p) (hN N q) (N 1) (Nat.le_refl _)
      have hwp := wN_le hW hp5
      have hwq := wN_le hW hq5
      refine Or.inl ⟨(cmN N p q (N 1) : Int), σ, ?_, ?_⟩
      · refine (eX10_common (d := 3) ?_).mono (by decide)
        intro X Xr Xt hC hr
        refine bX10_common_0 hC ?_
        refine Or.inl ⟨ctX10_needPerson (by decide) hQ.1 h, Or.inl ⟨ctX10_needPerson (by decide) hQ.1 g, _, ctX8_worthOf (by decide) hW hp5 hQ.1, _, ctX8_worthOf (by decide) hW hq5 hQ.1, _, ctX3_commonFactor (by decide) (by omega) (by omega), ?_⟩⟩
        rw [hg]
        exact hr
      · intro τ ha
        have hM0 := (InvN_ag hQ ha).2.1
        have hM : ∀ v, RowM (upS τ 66 5 v) 67 0 N := fun v => RowM_ups hM0 (by decide)
        refine ⟨upS τ 66 5 0, ?_, ups_eq, Inv_fr hI (th_fr ha)⟩
        refine (eX11_common (d := 3) ?_).mono (by decide)
        intro X Xr Xt hC hr
        refine bX11_common_0 hC ?_
        refine ⟨_, ctX11_isP (by decide) h5 (hM 0) h, ?_⟩
        rw [if_neg (by decide)]
        refine ⟨_, ctX11_isP (by decide) h5 (hM 0) g, ?_⟩
        rw [if_neg (by decide)]
        have hcm : ∀ k, k ≤ N 1 → cmN N p q k ≤ 760231058654565217 := fun k hk => wN_part hW (f := fun c => min (hN N p c) (hN N q c)) hk (Nat.le_trans (sumN_le (g := hN N p) (fun i _ => Nat.min_le_left _ _)) (mN_le hW hp5))
        have key : ∀ k, k ≤ N 1 → ∀ s : Nat, s = cmN N p q k → X 35 [rV 20 66, iV (p : Int), iV (q : Int), lV (s : Int), uV, iV (k : Int), uV] [] (upS τ 66 5 0) := by
          refine loop_up (P := fun k => ∀ s : Nat, s = cmN N p q k → X 35 [rV 20 66, iV (p : Int), iV (q : Int), lV (s : Int), uV, iV (k : Int), uV] [] (upS τ 66 5 0)) ?_ ?_
          · intro s hs
            refine bX11_common_35 hC ?_
            refine ⟨_, ctX11_coins (by decide) (hM 0), ?_⟩
            rw [if_neg (by omega), hs]
            exact hr
          · intro k hk ih s hs
            refine bX11_common_35 hC ?_
            refine ⟨_, ctX11_coins (by decide) (hM 0), ?_⟩
            rw [if_pos (by omega)]
            have hb := hcm (k + 1) hk
            rw [cmN_s] at hb
            have hq := hW.2.1 k hk
            have key2 : ∀ i, i ≤ min (hN N p k) (hN N q k) → ∀ s : Nat, s = cmN N p q k * N (4 + k) ^ i → X 47 [rV 20 66, iV (p : Int), iV (q : Int), lV (s : Int), uV, iV (k : Int), iV (i : Int)] [] (upS τ 66 5 0) := by
              refine loop_up (P := fun i => ∀ s : Nat, s = cmN N p q k * N (4 + k) ^ i → X 47 [rV 20 66, iV (p : Int), iV (q : Int), lV (s : Int), uV, iV (k : Int), iV (i : Int)] [] (upS τ 66 5 0)) ?_ ?_
              · intro s hs
                refine bX11_common_47 hC ?_
                refine ⟨_, ctX11_of (by decide) hp5 (by omega) (hM 0), _, ctX11_of (by decide) hq5 (by omega) (hM 0), ?_⟩
                rw [min_nat, if_neg (by omega), w32_s (by omega)]
                exact ih s hs
              · intro i hi ihi s hs
                refine bX11_common_47 hC ?_
                refine ⟨_, ctX11_of (by decide) hp5 (by omega) (hM 0), _, ctX11_of (by decide) hq5 (by omega) (hM 0), ?_⟩
                have hh := hN_le hW hp5 (show k < 8 by omega)
                rw [min_nat, if_pos (by omega)]
                refine ⟨_, ctX11_prime (by decide) (by omega) (hM 0), ?_⟩
                have e : s * N (4 + k) = cmN N p q k * N (4 + k) ^ (i + 1) := by
                  rw [hs, Nat.mul_assoc]
                  rfl
                have hm : cmN N p q k * N (4 + k) ^ (i + 1) ≤ cmN N p q k * N (4 + k) ^ (min (hN N p k) (hN N q k)) := Nat.mul_le_mul_left _ (Nat.pow_le_pow_right (by omega) (by omega))
                rw [← Int.natCast_mul, w64_n (by omega), w32_s (by omega)]
                exact ihi _ e
            exact key2 0 (Nat.zero_le _) s (by rw [hs, Nat.pow_zero, Nat.mul_one])
        exact key 0 (Nat.zero_le _) 1 rfl
    · refine Or.inr ⟨1, σ, by decide, ?_, ?_⟩
      · refine (eX10_common (d := 3) ?_).mono (by decide)
        intro X Xr Xt hC hr
        refine bX10_common_0 hC ?_
        exact Or.inl ⟨ctX10_needPerson (by decide) hQ.1 h, Or.inr ⟨_, ctX10_needPerson_no (by decide) hQ.1 g, hr⟩⟩
      · intro τ ha
        have hM0 := (InvN_ag hQ ha).2.1
        have hM : ∀ v, RowM (upS τ 66 5 v) 67 0 N := fun v => RowM_ups hM0 (by decide)
        refine ⟨0, upS (upS τ 66 5 0) 66 5 1, ?_, ups_eq, Inv_fr hI ((th_fr ha).ups66 (by decide) (by decide) (by decide))⟩
        refine (eX11_common (d := 3) ?_).mono (by decide)
        intro X Xr Xt hC hr
        refine bX11_common_0 hC ?_
        refine ⟨_, ctX11_isP (by decide) h5 (hM 0) h, ?_⟩
        rw [if_neg (by decide)]
        refine ⟨_, ctX11_isP_no (by decide) h5 (hM 0) g, ?_⟩
        rw [if_pos (by decide)]
        exact ⟨_, _, ctX11_fails (by decide), hr⟩
  · refine Or.inr ⟨1, σ, by decide, ?_, ?_⟩
    · refine (eX10_common (d := 3) ?_).mono (by decide)
      intro X Xr Xt hC hr
      refine bX10_common_0 hC ?_
      exact Or.inr ⟨_, ctX10_needPerson_no (by decide) hQ.1 h, hr⟩
    · intro τ ha
      have hM0 := (InvN_ag hQ ha).2.1
      have hM : ∀ v, RowM (upS τ 66 5 v) 67 0 N := fun v => RowM_ups hM0 (by decide)
      refine ⟨0, upS (upS τ 66 5 0) 66 5 1, ?_, ups_eq, Inv_fr hI ((th_fr ha).ups66 (by decide) (by decide) (by decide))⟩
      refine (eX11_common (d := 3) ?_).mono (by decide)
      intro X Xr Xt hC hr
      refine bX11_common_0 hC ?_
      refine ⟨_, ctX11_isP_no (by decide) h5 (hM 0) h, ?_⟩
      rw [if_pos (by decide)]
      exact ⟨_, _, ctX11_fails (by decide), hr⟩
